/-! methods that may throw -/
abbrev xIAE : String := "java/lang/IllegalArgumentException"
abbrev xNSE : String := "java/util/NoSuchElementException"
abbrev xNames : List String := ["java/lang/RuntimeException", "java/lang/Exception"]
def rmx (d k : Nat) : Room := { frames := d, cells := k, slots := 6 * k, locals := 33 * d }
def xwL : List Cond := [.castable "java/lang/IllegalArgumentException" "java/lang/IllegalArgumentException", .castable "java/util/NoSuchElementException" "java/util/NoSuchElementException", .declares ⟨"java/lang/RuntimeException", "<init>", "(Ljava/lang/String;)V"⟩, .declares ⟨"java/lang/Exception", "<init>", "(Ljava/lang/String;)V"⟩, .declares ⟨"java/lang/Throwable", "<init>", "(Ljava/lang/String;)V"⟩]
def strL : List (Nat × String) := [(168, "length is not 0 .. 1200 or seed not 0 .. 255"), (165, "there is no such record"), (75, "what is not 0 .. 3"), (170, "page is not 0 .. 95"), (122, "what is not 0 .. 8"), (124, "slot is below 0"), (136, "there are not so many changes"), (158, "what is not 0 .. 7")]
def TXq (A : Nat → Prop) (U : State) (H : Heap) : Prop := (∀ w ∈ xwL, va_Nw w U) ∧ (vx_Zq Bundle.tN "UNASSIGNED_STACK" Bundle.steD A U H ∧ vx_Zq Bundle.tN "SUPPRESSED_SENTINEL" Bundle.listD A U H) ∧ ∀ q ∈ strL, ∃ sa, vk_R RX3 q.1 q.2 sa U
theorem TXq.warm {A : Nat → Prop} {s U : State} {H H1 : Heap} (hW : s.WarmedH U.vm) (h : TXq A s H) (hk : ∀ a : Nat, a < H.size → ¬ A a → H1[a]? = H[a]?) : TXq A U H1 := by
  obtain ⟨h1, ⟨h2, h3⟩, h4⟩ := h
  refine ⟨fun w hw => ?_, ⟨(h2.kept hk).moved hW.alike, (h3.kept hk).moved hW.alike⟩, fun q hq => ?_⟩
  · have h9 := h1 w hw
    unfold xwL at hw
    simp only [List.mem_cons, List.not_mem_nil, or_false] at hw
    rcases hw with rfl | rfl | rfl | rfl | rfl
    · exact va_Nw.warmC hW h9
    · exact va_Nw.warmC hW h9
    · exact va_Nw.warmD hW h9
    · exact va_Nw.warmD hW h9
    · exact va_Nw.warmD hW h9
  · obtain ⟨sa, h5⟩ := h4 q hq
    exact ⟨sa, vk_R.warm hW h5⟩
theorem xwL_on : ∀ w ∈ xwL, w.onTables = true := by decide +kernel
theorem TXq.same {A : Nat → Prop} {s U : State} {H : Heap} (hv : s.vm = U.vm) (h : TXq A s H) : TXq A U H := by
  obtain ⟨h1, ⟨h2, h3⟩, h4⟩ := h
  have ha : s.vm.Alike U.vm := by rw [hv]; exact Vm.Alike.refl _
  exact ⟨fun w hw => va_Nw.same (xwL_on w hw) hv (h1 w hw), ⟨h2.moved ha, h3.moved ha⟩, fun q hq => (h4 q hq).imp (fun sa h5 => vk_R.same hv.symm h5)⟩
theorem TXq.narrow {A B : Nat → Prop} {s : State} {H : Heap} (hAB : ∀ q, B q → A q) (h : TXq A s H) : TXq B s H := ⟨h.1, ⟨h.2.1.1.narrow hAB, h.2.1.2.narrow hAB⟩, h.2.2⟩
abbrev TX (g : GT) (U : State) : Prop := TXq (fun q => q ∈ gL g) U U.heap
def PcX (D : va_G) (cy : ClassId × ClassId) (g : GT) (V : VT) (av : List Value) : Array Value → State → Prop :=
  va_Pc av (fun U => va_P D vwCl (pw cy g V) U.heap ∧ va_K D vwCl (tyc cy) U ∧ NW U ∧ TX g U)
def XcX (D : va_G) (cy : ClassId × ClassId) (g : GT) (px : String → VT → Prop) : String → State → State → Prop :=
  vx_X (S := VT) (fun _ => True) (fun E u t => px E u ∧ va_P D vwCl (pw cy g u) t.heap) (fun q => q ∈ gL g)
def MetXI (l : Launch) (y : MethodName) (cc : ByteArray) (maxL : Nat) (ret : Option FieldType) (d k : Nat) (D : va_G) (cy : ClassId × ClassId) (g : GT) (av : List Value) (V : VT) (post : Int → VT → Prop) (px : String → VT → Prop) : Prop :=
  vx_Met l y (.code y cc maxL ret :: wsG) (rmx d k) (PcX D cy g V av) (QcI D cy g post) (XcX D cy g px) k (6 * k) (fun q => q ∈ gL g)
def MetXV (l : Launch) (y : MethodName) (cc : ByteArray) (maxL : Nat) (ret : Option FieldType) (d k : Nat) (D : va_G) (cy : ClassId × ClassId) (g : GT) (av : List Value) (V : VT) (post : VT → Prop) (px : String → VT → Prop) : Prop :=
  vx_Met l y (.code y cc maxL ret :: wsG) (rmx d k) (PcX D cy g V av) (QcV D cy g post) (XcX D cy g px) k (6 * k) (fun q => q ∈ gL g)
theorem PcX_blind {D : va_G} {cy : ClassId × ClassId} {g : GT} {V : VT} {av : List Value} : FrameBlind (PcX D cy g V av) := by
  rintro a U f mk ⟨h1, h2, h3, h4, h5⟩
  exact ⟨h1, h2, va_K.moved (u := U) (U := U.calling f mk a) (Vm.Alike.refl U.vm) h3, NW_same (u := U) (U := U.calling f mk a) rfl h4, TXq.same (s := U) (U := U.calling f mk a) rfl h5⟩
def xatoms (cls : String) (ic ix : Nat) (rx : ByteArray) : List Cond := vz_at RX3 ic cls ix rx xNames
def XOK (cls : String) (ik ic ix : Nat) (rx : ByteArray) : Prop := (decode rx 0 = .ok (.aload_n 0, 1) ∧ decode rx 1 = .ok (.aload_n 1, 1) ∧ decode rx 2 = .ok (.invokespecial ix, 3) ∧ decode rx 5 = .ok (.return_, 1)) ∧ Bundle.fit cls = true ∧ Cond.classLink RX3 ik cls ∈ wsG ∧ Cond.initialized cls ∈ wsG ∧ (∀ w ∈ (xatoms cls ic ix rx).filter goodWord, w ∈ wsG) ∧ (∀ w ∈ (xatoms cls ic ix rx).filter (fun w => !goodWord w), w ∈ xwL) ∧ (∀ w ∈ Cond.classLink RX3 ik cls :: Cond.initialized cls :: xatoms cls ic ix rx, vx_ot w = true)
theorem wsG_f {L : List Cond} (h : ∀ w ∈ L.filter goodWord, w ∈ lw_tbl) : ∀ w ∈ L.filter goodWord, w ∈ wsG := fun w hw => List.mem_filter.mpr ⟨h w hw, (List.mem_filter.mp hw).2⟩
theorem xok_I : XOK xIAE 73 77 7 prog_9_method_2_code := ⟨⟨by decide +kernel, by decide +kernel, by decide +kernel, by decide +kernel⟩, by decide +kernel, List.mem_filter.mpr ⟨by decide +kernel, rfl⟩, List.mem_filter.mpr ⟨by decide +kernel, rfl⟩, wsG_f (by decide +kernel), by decide +kernel, by decide +kernel⟩
theorem xok_N : XOK xNSE 163 167 13 prog_15_method_4_code := ⟨⟨by decide +kernel, by decide +kernel, by decide +kernel, by decide +kernel⟩, by decide +kernel, List.mem_filter.mpr ⟨by decide +kernel, rfl⟩, List.mem_filter.mpr ⟨by decide +kernel, rfl⟩, wsG_f (by decide +kernel), by decide +kernel, by decide +kernel⟩
section
variable {p : Program} {l : Launch} {e : Env} {R : Room} {s : State} {m : MethodId} {args : Array Value} {below : List Frame} {meth : Method} {c : Code} {cells slots nL : Nat} {Q : State → Prop}
variable {cc : ByteArray} {own : String} {ret : Option FieldType} {D : va_G} {cy : ClassId × ClassId} {g : GT} {A : Nat → Prop} {H0 : Heap} {V : VT} {pc : Nat} {lv : List (Nat × Value)} {st : List Value}
theorem MetXI.of {y : MethodName} {maxL d k : Nat} {av : List Value} {post : Int → VT → Prop} {px : String → VT → Prop} (hy : plainName y.cls = true) (hlen : (lg_sl av).length ≤ maxL) (hap : Apart g)
    (body : ∀ (p : Program) (e : Env) (s : State) (m : MethodId) (args : Array Value) (below : List Frame) (meth : Method) (c : Code), Cx p s m args meth c cc maxL y.cls ret D cy g (fun q => q ∈ gL g) → TX g s → (∀ x ∈ c.exceptionTable.toList, False) →
      G p l e (rmx d k) s m args below meth c maxL 0 0 (vx_MQ below (QcI D cy g post) (XcX D cy g px) args s k (6 * k) (fun q => q ∈ gL g)) D cy g (fun q => q ∈ gL g) s.heap V 0 (lv_args 0 av) []) : MetXI l y cc maxL ret d k D cy g av V post px := by
  refine vx_ofW (cc := cc) (maxL := maxL) (ret := ret) hy rfl ?_
  intro p e s m args below meth c s₁ B hml hno hv
  obtain ⟨rfl, hP, hK, hN, hT⟩ := hv
  have hts := atoms_spec (ws := .code y cc maxL ret :: wsG) B.pre
  have hown : s.vm.findClass y.cls = some m.cls := findClass_of_methodNamed B.named
  have C : Cx p s m av.toArray meth c cc maxL y.cls ret D cy g (fun q => q ∈ gL g) := ⟨⟨B.exec, B.bytes, hml, hown, fun w hw => hts w (List.mem_cons_of_mem _ hw)⟩, hK, hN, hap, fun _ h => h, B.returns, B.notSynchronized⟩
  rw [lg_entry_eq]
  exact body p e s m av.toArray below meth c C hT hno s.heap [] _ hP va_S.rf (lv_entry av hlen)
theorem MetXV.of {y : MethodName} {maxL d k : Nat} {av : List Value} {post : VT → Prop} {px : String → VT → Prop} (hy : plainName y.cls = true) (hlen : (lg_sl av).length ≤ maxL) (hap : Apart g)
    (body : ∀ (p : Program) (e : Env) (s : State) (m : MethodId) (args : Array Value) (below : List Frame) (meth : Method) (c : Code), Cx p s m args meth c cc maxL y.cls ret D cy g (fun q => q ∈ gL g) → TX g s → (∀ x ∈ c.exceptionTable.toList, False) →
      G p l e (rmx d k) s m args below meth c maxL 0 0 (vx_MQ below (QcV D cy g post) (XcX D cy g px) args s k (6 * k) (fun q => q ∈ gL g)) D cy g (fun q => q ∈ gL g) s.heap V 0 (lv_args 0 av) []) : MetXV l y cc maxL ret d k D cy g av V post px := by
  refine vx_ofW (cc := cc) (maxL := maxL) (ret := ret) hy rfl ?_
  intro p e s m args below meth c s₁ B hml hno hv
  obtain ⟨rfl, hP, hK, hN, hT⟩ := hv
  have hts := atoms_spec (ws := .code y cc maxL ret :: wsG) B.pre
  have hown : s.vm.findClass y.cls = some m.cls := findClass_of_methodNamed B.named
  have C : Cx p s m av.toArray meth c cc maxL y.cls ret D cy g (fun q => q ∈ gL g) := ⟨⟨B.exec, B.bytes, hml, hown, fun w hw => hts w (List.mem_cons_of_mem _ hw)⟩, hK, hN, hap, fun _ h => h, B.returns, B.notSynchronized⟩
  rw [lg_entry_eq]
  exact body p e s m av.toArray below meth c C hT hno s.heap [] _ hP va_S.rf (lv_entry av hlen)
theorem gx_iret {post : Int → VT → Prop} {XC : String → State → State → Prop} {x : Int} {k n : Nat} (C : Cx p s m args meth c cc nL own (some .int) D cy g (fun q => q ∈ gL g)) (h1 : cells ≤ k) (h2 : slots ≤ n) (hd : decode cc pc = .ok (.ireturn, 1)) (hp : post x V) :
    G p l e R s m args below meth c nL cells slots (vx_MQ below (QcI D cy g post) XC args s k n (fun q => q ∈ gL g)) D cy g (fun q => q ∈ gL g) s.heap V pc lv [vI x] :=
  fun H locs ls hP hS hl => vx_ret (W.widen h1 h2 (g_iret (cells := k) (slots := n) C hd hp H locs ls hP hS hl))
theorem gx_zret {post : Int → VT → Prop} {XC : String → State → State → Prop} {x : Int} {k n : Nat} (C : Cx p s m args meth c cc nL own (some .boolean) D cy g (fun q => q ∈ gL g)) (hz : x = 0 ∨ x = 1) (h1 : cells ≤ k) (h2 : slots ≤ n) (hd : decode cc pc = .ok (.ireturn, 1)) (hp : post x V) :
    G p l e R s m args below meth c nL cells slots (vx_MQ below (QcI D cy g post) XC args s k n (fun q => q ∈ gL g)) D cy g (fun q => q ∈ gL g) s.heap V pc lv [vI x] :=
  fun H locs ls hP hS hl => vx_ret (W.widen h1 h2 (g_zret (cells := k) (slots := n) C hz hd hp H locs ls hP hS hl))
theorem gx_vret {post : VT → Prop} {XC : String → State → State → Prop} {k n : Nat} (C : Cx p s m args meth c cc nL own none D cy g (fun q => q ∈ gL g)) (h1 : cells ≤ k) (h2 : slots ≤ n) (hd : decode cc pc = .ok (.return_, 1)) (hp : post V) :
    G p l e R s m args below meth c nL cells slots (vx_MQ below (QcV D cy g post) XC args s k n (fun q => q ∈ gL g)) D cy g (fun q => q ∈ gL g) s.heap V pc lv [] :=
  fun H locs ls hP hS hl => vx_ret (W.widen h1 h2 (g_vret (cells := k) (slots := n) C hd hp H locs ls hP hS hl))
theorem gx_throw {Qc : Array Value → State → Outcome → State → Prop} {px : String → VT → Prop} {k n : Nat} (C : Cx p s m args meth c cc nL RX3 ret D cy g (fun q => q ∈ gL g)) (hT : TX g s) (hno : ∀ x ∈ c.exceptionTable.toList, False) (hl : l.stackTraces = false) {cls text : String} {ik is ic ix : Nat} {rx : ByteArray} (hX : XOK cls ik ic ix rx) (hs : (is, text) ∈ strL)
    (d0 : decode cc pc = .ok (.new ik, 3)) (d3 : decode cc (pc + 3) = .ok (.dup, 1)) (d4 : decode cc (pc + 4) = .ok (.ldc is, 2)) (d6 : decode cc (pc + 6) = .ok (.invokespecial ic, 3)) (d9 : decode cc (pc + 9) = .ok (.athrow, 1))
    (hRf : 5 < R.frames) (hRl : (st.map fun v => v.category).sum + 82 ≤ R.locals) (hRc : cells + 1 ≤ R.cells) (hRs : slots + 6 ≤ R.slots) (hc : cells + 1 ≤ k) (hn : slots + 6 ≤ n) (hp : px cls V) :
    G p l e R s m args below meth c nL cells slots (vx_MQ below Qc (XcX D cy g px) args s k n (fun q => q ∈ gL g)) D cy g (fun q => q ∈ gL g) s.heap V pc lv st := by
  intro H locs ls hP hS hl9
  obtain ⟨⟨y0, y1, y2, y5⟩, x1, x2, x3, x4, x5, x6⟩ := hX
  obtain ⟨sa, hsa⟩ := hT.2.2 _ hs
  refine vz_throwS (A := fun q => q ∈ gL g) C.1.1 C.1.2.1 hl y0 y1 y2 y5 C.1.2.2.2.1 x1 (names := xNames) (by decide +kernel) (C.1.2.2.2.2 _ x2) (C.1.2.2.2.2 _ x3) hsa (vx_hat (fun w hw => C.1.2.2.2.2 _ (x4 w hw)) x5 (fun w hw => va_Nw.use (xwL_on w hw) (hT.1 w hw))) x6 hT.2.1.1 hT.2.1.2 hS (hl9.1.trans C.1.2.2.1.symm) d0 d3 d4 d6 d9 (fun x hx => (hno x hx).elim) hRf hRl hRc hRs C.2.2.2.2.2.2 (fun t hW hz hk => ⟨V, trivial, ⟨hp, hP.kept (fun q z hq => hk z.1 (hP q z hq).lt)⟩, Nat.le_trans hS.1 hz, fun q h1 h2 => (hk q (Nat.lt_of_lt_of_le h1 hS.1)).trans (hS.2.1 q h1 h2)⟩) hS.2.2 hc hn
theorem TX_at {H : Heap} {locs : List Loc} {U : State} (hT : TX g s) (hS : va_S (fun q => q ∈ gL g) s.heap H locs) (hU : U.heap = H) (hW : s.WarmedH U.vm) : TX g U := by
  have h := TXq.warm (H1 := H) hW hT hS.2.1
  rw [← hU] at h
  exact h
/-- the calls of the checks -/
theorem gx_callSV {Qc : Array Value → State → Outcome → State → Prop} (C : Cx p s m args meth c cc nL own ret D cy g (fun q => q ∈ gL g)) (hT : TX g s) (hno : ∀ x ∈ c.exceptionTable.toList, False) {y : MethodName} {ccy : ByteArray} {maxLy d index k n : Nat} {rety : Option FieldType} (av : List Value) (rest : List Value) {post : VT → Prop} {px px' : String → VT → Prop}
    (hM : MetXV l y ccy maxLy rety d 1 D cy g av V post px) (hL : LkS own index y ccy maxLy rety av.length) (hst : st = av.reverse ++ rest) (hw : (rest.map fun v => v.category).sum ≤ 8) (hR : d + 1 ≤ R.frames ∧ 8 + (maxLy + 11) + 33 * d ≤ R.locals) (hcl : cells + 1 ≤ R.cells ∧ slots + 6 ≤ R.slots) (hcl2 : cells + 1 ≤ k ∧ slots + 6 ≤ n) (hd : decode cc pc = .ok (.invokestatic index, 3)) (hx : ∀ E u, px E u → px' E u)
    (kk : ∀ (V' : VT), post V' → G p l e R s m args below meth c nL (cells + 1) (slots + 6) (vx_MQ below Qc (XcX D cy g px') args s k n (fun q => q ∈ gL g)) D cy g (fun q => q ∈ gL g) s.heap V' (pc + 3) lv rest) : G p l e R s m args below meth c nL cells slots (vx_MQ below Qc (XcX D cy g px') args s k n (fun q => q ∈ gL g)) D cy g (fun q => q ∈ gL g) s.heap V pc lv st := by
  intro H locs ls hP hS hl
  obtain ⟨⟨l0, l1, l2, l3, l4⟩, l6⟩ := hL
  have cw : CallB R s args own index y ccy maxLy rety (.code y ccy maxLy rety :: wsG) (rmx d 1) 1 6 av.length ∧ (Cond.static y).before args s = true :=
    cwS av.length C.1.2.2.2.2 (wsG_all (fun w hw => by
      simp only [wsS, List.mem_append, List.mem_cons, List.not_mem_nil, or_false] at hw
      rcases hw with (rfl | rfl | rfl) | rfl | h
      · exact l1
      · exact l2
      · exact l3
      · exact l4
      · exact h)) rfl rfl rfl ⟨l0, l6⟩ hR
  refine vx_callv (vx_runS (As := av) (rest := rest) C.1 hM cw ⟨PcX_blind, fun U hU hW => ⟨rfl, by rw [hU]; exact hP, va_K.moved hW.alike C.2.1, NW_warm hW C.2.2.1, TX_at hT hS hU hW⟩⟩ rfl rfl hl.1 hst (lv_room (m := m) (pc := pc) (ls := ls) (rest := st) hw) hd hcl) hS (fun q _ h => h) (fun q h => h) (fun q _ h => h) ?_ ?_
  · rintro E ce q9 u t H1 locs1 ht hvm - ⟨hpx, hPu⟩ hz hk hS1 hce hcv hcl9
    exact vx_out (fun x hx => (hno x hx).elim) C.2.2.2.2.2.2 hce hcv hcl9 (fun t' ht' hW => ⟨u, trivial, ⟨hx E u hpx, by rw [ht', ← ht]; exact hPu⟩, hS1.F ht'⟩) hS1.2.2 hcl2.1 hcl2.2
  · rintro V' t H1 locs1 ht _ hp hB _ _ hS1
    exact kk V' hp H1 locs1 ls (by rw [← ht]; exact hB) hS1 hl
theorem gx_callVV {Qc : Array Value → State → Outcome → State → Prop} (C : Cx p s m args meth c cc nL own ret D cy g (fun q => q ∈ gL g)) (hT : TX g s) (hno : ∀ x ∈ c.exceptionTable.toList, False) {y : MethodName} {ccy : ByteArray} {maxLy d index b k n : Nat} {rety : Option FieldType} (av : List Value) (rest : List Value) {post : VT → Prop} {px px' : String → VT → Prop}
    (hM : MetXV l y ccy maxLy rety d 1 D cy g (.ref b :: av) V post px) (hL : LkV own index y ccy maxLy rety av.length) (hb : rcv g b y.cls) (hst : st = av.reverse ++ .ref b :: rest) (hw : (rest.map fun v => v.category).sum ≤ 8) (hR : d + 1 ≤ R.frames ∧ 8 + (maxLy + 11) + 33 * d ≤ R.locals) (hcl : cells + 1 ≤ R.cells ∧ slots + 6 ≤ R.slots) (hcl2 : cells + 1 ≤ k ∧ slots + 6 ≤ n) (hd : decode cc pc = .ok (.invokevirtual index, 3)) (hx : ∀ E u, px E u → px' E u)
    (kk : ∀ (V' : VT), post V' → G p l e R s m args below meth c nL (cells + 1) (slots + 6) (vx_MQ below Qc (XcX D cy g px') args s k n (fun q => q ∈ gL g)) D cy g (fun q => q ∈ gL g) s.heap V' (pc + 3) lv rest) : G p l e R s m args below meth c nL cells slots (vx_MQ below Qc (XcX D cy g px') args s k n (fun q => q ∈ gL g)) D cy g (fun q => q ∈ gL g) s.heap V pc lv st := by
  intro H locs ls hP hS hl
  obtain ⟨⟨l1, l2, l3, l4, l5⟩, l6⟩ := hL
  obtain ⟨hbL, hb2⟩ := hb
  obtain ⟨ci, fs, T, N, hb3, hb4⟩ := hb2 cy V
  have cw : CallW R s args own y.cls index y ccy maxLy rety (.code y ccy maxLy rety :: wsG) (rmx d 1) 1 6 av.length :=
    cwV (C := y.cls) av.length C.1.2.2.2.2 (wsG_all (fun w hw => by
      simp only [wsV, List.mem_append, List.mem_cons, List.not_mem_nil, or_false] at hw
      rcases hw with (rfl | rfl | rfl | rfl) | rfl | h
      · exact l1
      · exact l2
      · exact l3
      · exact l4
      · exact l5
      · exact h)) rfl rfl rfl ⟨rfl, l6⟩ hR
  refine vx_callv (vx_runV (As := av) (rest := rest) C.1 hM cw ⟨PcX_blind, cls_of (o := 0) C hbL hb3 hb4 hP, fun U hU hW => ⟨rfl, by rw [hU]; exact hP, va_K.moved hW.alike C.2.1, NW_warm hW C.2.2.1, TX_at hT hS hU hW⟩⟩ rfl rfl hl.1 hst (lv_room (m := m) (pc := pc) (ls := ls) (rest := st) hw) hd hcl) hS (fun q _ h => h) (fun q h => h) (fun q _ h => h) ?_ ?_
  · rintro E ce q9 u t H1 locs1 ht hvm - ⟨hpx, hPu⟩ hz hk hS1 hce hcv hcl9
    exact vx_out (fun x hx => (hno x hx).elim) C.2.2.2.2.2.2 hce hcv hcl9 (fun t' ht' hW => ⟨u, trivial, ⟨hx E u hpx, by rw [ht', ← ht]; exact hPu⟩, hS1.F ht'⟩) hS1.2.2 hcl2.1 hcl2.2
  · rintro V' t H1 locs1 ht _ hp hB _ _ hS1
    exact kk V' hp H1 locs1 ls (by rw [← ht]; exact hB) hS1 hl
end
