/-! contracts over the pool: answers, and the new V -/
def PcV (D : va_G) (cy : ClassId × ClassId) (g : GT) (V : VT) (av : List Value) : Array Value → State → Prop :=
  va_Pc av (fun U => va_P D vwCl (pw cy g V) U.heap ∧ va_K D vwCl (tyc cy) U ∧ NW U)
def QcI (D : va_G) (cy : ClassId × ClassId) (g : GT) (post : Int → VT → Prop) : Array Value → State → Outcome → State → Prop :=
  va_Qi (S := Int × VT) (fun r u => r = iI u.1 ∧ post u.1 u.2) (fun u t => va_P D vwCl (pw cy g u.2) t.heap) (fun q => q ∈ gL g)
def QcV (D : va_G) (cy : ClassId × ClassId) (g : GT) (post : VT → Prop) : Array Value → State → Outcome → State → Prop :=
  va_Qv (S := VT) (fun u => post u) (fun u t => va_P D vwCl (pw cy g u) t.heap) (fun q => q ∈ gL g)
def MetI (l : Launch) (y : MethodName) (cc : ByteArray) (maxL : Nat) (ret : Option FieldType) (d : Nat) (D : va_G) (cy : ClassId × ClassId) (g : GT) (av : List Value) (V : VT) (post : Int → VT → Prop) : Prop :=
  Met l y (.code y cc maxL ret :: wsG) (rmd d) (PcV D cy g V av) (QcI D cy g post) 0 0 (fun q => q ∈ gL g)
def MetV (l : Launch) (y : MethodName) (cc : ByteArray) (maxL : Nat) (ret : Option FieldType) (d : Nat) (D : va_G) (cy : ClassId × ClassId) (g : GT) (av : List Value) (V : VT) (post : VT → Prop) : Prop :=
  Met l y (.code y cc maxL ret :: wsG) (rmd d) (PcV D cy g V av) (QcV D cy g post) 0 0 (fun q => q ∈ gL g)
theorem NW_same {u U : State} (h : u.vm = U.vm) (hn : NW u) : NW U := by
  intro w hw
  have ho : w.onTables = true := (show ∀ w ∈ nestL, w.onTables = true by decide +kernel) w hw
  exact va_Nw.same ho h (hn w hw)
theorem NW_warm {s U : State} (hW : s.WarmedH U.vm) (hn : NW s) : NW U := by
  intro w hw
  have ho := hn w hw
  have hf : (∃ a i b n d h, w = .fieldLinkNest a i b n d h) ∨ ∃ a i x h, w = .methodLinkNest a i x h := by
    unfold nestL at hw
    simp only [List.mem_cons, List.not_mem_nil, or_false] at hw
    rcases hw with h | h | h | h | h | h | h | h | h | h | h | h | h | h | h | h | h | h | h | h | h | h | h | h <;> subst h <;> first | exact Or.inl ⟨_, _, _, _, _, _, rfl⟩ | exact Or.inr ⟨_, _, _, _, rfl⟩
  rcases hf with ⟨a, i, b, n, d, h, rfl⟩ | ⟨a, i, x, h, rfl⟩
  · exact va_Nw.warmF hW ho
  · exact va_Nw.warmM hW ho
theorem PcV_blind {D : va_G} {cy : ClassId × ClassId} {g : GT} {V : VT} {av : List Value} : FrameBlind (PcV D cy g V av) := by
  rintro a U f mk ⟨h1, h2, h3, h4⟩
  exact ⟨h1, h2, va_K.moved (u := U) (U := U.calling f mk a) (Vm.Alike.refl U.vm) h3, NW_same (u := U) (U := U.calling f mk a) rfl h4⟩
section
variable {p : Program} {l : Launch} {e : Env} {R : Room} {s : State} {m : MethodId} {args : Array Value} {below : List Frame} {meth : Method} {c : Code} {cells slots nL : Nat} {Q : State → Prop}
variable {cc : ByteArray} {own : String} {ret : Option FieldType} {D : va_G} {cy : ClassId × ClassId} {g : GT} {A : Nat → Prop} {H0 : Heap} {V : VT} {pc : Nat} {lv : List (Nat × Value)} {st : List Value}
/-- from the body's walk to the contract -/
theorem MetI.of {y : MethodName} {maxL d : Nat} {av : List Value} {post : Int → VT → Prop} (hy : plainName y.cls = true) (hlen : (lg_sl av).length ≤ maxL) (hap : Apart g)
    (body : ∀ (p : Program) (e : Env) (s : State) (m : MethodId) (args : Array Value) (below : List Frame) (meth : Method) (c : Code), Cx p s m args meth c cc maxL y.cls ret D cy g (fun q => q ∈ gL g) →
      G p l e (rmd d) s m args below meth c maxL 0 0 (MQ below (QcI D cy g post) args s 0 0 (fun q => q ∈ gL g)) D cy g (fun q => q ∈ gL g) s.heap V 0 (lv_args 0 av) []) : MetI l y cc maxL ret d D cy g av V post := by
  refine Met.ofW (cc := cc) (maxL := maxL) (ret := ret) hy rfl ?_
  intro p e s m args below meth c s₁ B hml hv
  obtain ⟨rfl, hP, hK, hN⟩ := hv
  have hts := atoms_spec (ws := .code y cc maxL ret :: wsG) B.pre
  have hown : s.vm.findClass y.cls = some m.cls := findClass_of_methodNamed B.named
  have C : Cx p s m av.toArray meth c cc maxL y.cls ret D cy g (fun q => q ∈ gL g) := ⟨⟨B.exec, B.bytes, hml, hown, fun w hw => hts w (List.mem_cons_of_mem _ hw)⟩, hK, hN, hap, fun _ h => h, B.returns, B.notSynchronized⟩
  rw [lg_entry_eq]
  exact body p e s m av.toArray below meth c C s.heap [] _ hP va_S.rf (lv_entry av hlen)
theorem MetV.of {y : MethodName} {maxL d : Nat} {av : List Value} {post : VT → Prop} (hy : plainName y.cls = true) (hlen : (lg_sl av).length ≤ maxL) (hap : Apart g)
    (body : ∀ (p : Program) (e : Env) (s : State) (m : MethodId) (args : Array Value) (below : List Frame) (meth : Method) (c : Code), Cx p s m args meth c cc maxL y.cls ret D cy g (fun q => q ∈ gL g) →
      G p l e (rmd d) s m args below meth c maxL 0 0 (MQ below (QcV D cy g post) args s 0 0 (fun q => q ∈ gL g)) D cy g (fun q => q ∈ gL g) s.heap V 0 (lv_args 0 av) []) : MetV l y cc maxL ret d D cy g av V post := by
  refine Met.ofW (cc := cc) (maxL := maxL) (ret := ret) hy rfl ?_
  intro p e s m args below meth c s₁ B hml hv
  obtain ⟨rfl, hP, hK, hN⟩ := hv
  have hts := atoms_spec (ws := .code y cc maxL ret :: wsG) B.pre
  have hown : s.vm.findClass y.cls = some m.cls := findClass_of_methodNamed B.named
  have C : Cx p s m av.toArray meth c cc maxL y.cls ret D cy g (fun q => q ∈ gL g) := ⟨⟨B.exec, B.bytes, hml, hown, fun w hw => hts w (List.mem_cons_of_mem _ hw)⟩, hK, hN, hap, fun _ h => h, B.returns, B.notSynchronized⟩
  rw [lg_entry_eq]
  exact body p e s m av.toArray below meth c C s.heap [] _ hP va_S.rf (lv_entry av hlen)
/-- ends -/
theorem g_iret {post : Int → VT → Prop} {x : Int} (C : Cx p s m args meth c cc nL own (some .int) D cy g (fun q => q ∈ gL g)) (hd : decode cc pc = .ok (.ireturn, 1)) (hp : post x V) :
    G p l e R s m args below meth c nL cells slots (MQ below (QcI D cy g post) args s cells slots (fun q => q ∈ gL g)) D cy g (fun q => q ∈ gL g) s.heap V pc lv [vI x] := by
  intro H locs ls hP hS hl
  exact W.iret (v := iI x) C.1.1 C.1.2.1 C.2.2.2.2.2.1 (fun t ht hW => ⟨⟨iI x, (x, V), rfl, ⟨rfl, hp⟩, by show va_P D vwCl (pw cy g V) t.heap; rw [ht]; exact hP⟩, hS.F ht⟩) hS.2.2 hd C.2.2.2.2.2.2
theorem g_zret {post : Int → VT → Prop} {x : Int} (C : Cx p s m args meth c cc nL own (some .boolean) D cy g (fun q => q ∈ gL g)) (hz : x = 0 ∨ x = 1) (hd : decode cc pc = .ok (.ireturn, 1)) (hp : post x V) :
    G p l e R s m args below meth c nL cells slots (MQ below (QcI D cy g post) args s cells slots (fun q => q ∈ gL g)) D cy g (fun q => q ∈ gL g) s.heap V pc lv [vI x] := by
  intro H locs ls hP hS hl
  exact W.zret (v := iI x) (ty := .boolean) C.1.1 C.1.2.1 C.2.2.2.2.2.1 (by rcases hz with rfl | rfl <;> rfl) (fun t ht hW => ⟨⟨iI x, (x, V), rfl, ⟨rfl, hp⟩, by show va_P D vwCl (pw cy g V) t.heap; rw [ht]; exact hP⟩, hS.F ht⟩) hS.2.2 hd C.2.2.2.2.2.2
theorem g_vret {post : VT → Prop} (C : Cx p s m args meth c cc nL own none D cy g (fun q => q ∈ gL g)) (hd : decode cc pc = .ok (.return_, 1)) (hp : post V) :
    G p l e R s m args below meth c nL cells slots (MQ below (QcV D cy g post) args s cells slots (fun q => q ∈ gL g)) D cy g (fun q => q ∈ gL g) s.heap V pc lv [] := by
  intro H locs ls hP hS hl
  exact W.vret C.1.1 C.1.2.1 C.2.2.2.2.2.1 (fun t ht hW => ⟨⟨V, rfl, hp, by show va_P D vwCl (pw cy g V) t.heap; rw [ht]; exact hP⟩, hS.F ht⟩) hS.2.2 hd C.2.2.2.2.2.2
/-- links of calls -/
def LkV (own : String) (idx : Nat) (y : MethodName) (ccy : ByteArray) (maxL : Nat) (rety : Option FieldType) (n : Nat) : Prop :=
  (Cond.methodLink own idx y ∈ wsG ∧ Cond.instanceMethod y ∈ wsG ∧ Cond.selects y.cls y y ∈ wsG ∧ Cond.initialized y.cls ∈ wsG ∧ Cond.code y ccy maxL rety ∈ wsG) ∧ (y.cls ≠ "java/lang/invoke/MethodHandle" ∧ y.cls ≠ "java/lang/invoke/VarHandle" ∧ (parseMethodDescriptor y.desc).map (fun d => d.parameters.length) = some n)
def LkS (own : String) (idx : Nat) (y : MethodName) (ccy : ByteArray) (maxL : Nat) (rety : Option FieldType) (n : Nat) : Prop :=
  (y.cls = own ∧ Cond.methodLink own idx y ∈ wsG ∧ Cond.static y ∈ wsG ∧ Cond.initialized own ∈ wsG ∧ Cond.code y ccy maxL rety ∈ wsG) ∧ (y.cls ≠ "java/lang/invoke/MethodHandle" ∧ y.cls ≠ "java/lang/invoke/VarHandle" ∧ (parseMethodDescriptor y.desc).map (fun d => d.parameters.length) = some n)
def LkN (own : String) (idx : Nat) (y : MethodName) (ccy : ByteArray) (maxL : Nat) (rety : Option FieldType) (n : Nat) : Prop :=
  (Cond.methodLinkNest own idx y "SlotFile" ∈ nestL ∧ Cond.static y ∈ wsG ∧ Cond.initialized y.cls ∈ wsG ∧ Cond.code y ccy maxL rety ∈ wsG) ∧ (y.cls ≠ "java/lang/invoke/MethodHandle" ∧ y.cls ≠ "java/lang/invoke/VarHandle" ∧ (parseMethodDescriptor y.desc).map (fun d => d.parameters.length) = some n)
theorem wsG_all {ws : List Cond} (h : ∀ w ∈ ws, w ∈ wsG) : GoodIn wsG ws := fun w hw => ⟨h w hw, wsG_good (h w hw)⟩
theorem cls_of {a ci : Nat} {o : Int} {Cn : String} {T : u_T} {N : Nat} {H : Heap} (C : Cx p s m args meth c cc nL own ret D cy g A) (ha : a ∈ gL g) {fs : List Value} (he : pF cy g V a = .inr (ci, fs)) (hc : vwCl[ci]? = some (Cn, T, N)) (hP : va_P D vwCl (pw cy g V) H) : ∃ cell : Cell, H[a]? = some cell ∧ cell.vm.isStatics = false ∧ s.vm.findClass Cn = some cell.cls := by
  obtain ⟨q0, hq0⟩ := pw_at (cy := cy) (V := V) ha
  rw [he] at hq0
  exact va_recv C.2.1 hP hc hq0
def rcv (g : GT) (a : Nat) (Cn : String) : Prop := a ∈ gL g ∧ ∀ (cy : ClassId × ClassId) (V : VT), ∃ ci fs T N, pF cy g V a = .inr (ci, fs) ∧ vwCl[ci]? = some (Cn, T, N)
theorem g_callI (C : Cx p s m args meth c cc nL own ret D cy g A) {y : MethodName} {ccy : ByteArray} {maxLy d index b : Nat} {rety : Option FieldType} (av : List Value) (rest : List Value) {post : Int → VT → Prop}
    (hM : MetI l y ccy maxLy rety d D cy g (.ref b :: av) V post) (hL : LkV own index y ccy maxLy rety av.length) (hb : rcv g b y.cls) (hst : st = av.reverse ++ .ref b :: rest) (hw : (rest.map fun v => v.category).sum ≤ 8) (hR : d + 1 ≤ R.frames ∧ 8 + (maxLy + 11) + 33 * d ≤ R.locals) (hcl : cells ≤ R.cells ∧ slots ≤ R.slots) (hd : decode cc pc = .ok (.invokevirtual index, 3))
    (kk : ∀ (r : Int) (V' : VT), post r V' → G p l e R s m args below meth c nL cells slots Q D cy g A H0 V' (pc + 3) lv (vI r :: rest)) : G p l e R s m args below meth c nL cells slots Q D cy g A H0 V pc lv st := by
  intro H locs ls hP hS hl
  obtain ⟨⟨l1, l2, l3, l4, l5⟩, l6⟩ := hL
  obtain ⟨hbL, hb2⟩ := hb
  obtain ⟨ci, fs, T, N, hb3, hb4⟩ := hb2 cy V
  have cw : CallW R s args own y.cls index y ccy maxLy rety (.code y ccy maxLy rety :: wsG) (rmd d) 0 0 av.length :=
    cwV (C := y.cls) av.length C.1.2.2.2.2 (wsG_all (fun w hw => by
      simp only [wsV, List.mem_append, List.mem_cons, List.not_mem_nil, or_false] at hw
      rcases hw with (rfl | rfl | rfl | rfl) | rfl | h
      · exact l1
      · exact l2
      · exact l3
      · exact l4
      · exact l5
      · exact h)) rfl rfl rfl ⟨rfl, l6⟩ hR
  refine va_calli (va_runV (As := av) (rest := rest) C.1 hM cw ⟨PcV_blind, cls_of (o := 0) C hbL hb3 hb4 hP, fun U hU hW => ⟨rfl, by rw [hU]; exact hP, va_K.moved hW.alike C.2.1, NW_warm hW C.2.2.1⟩⟩ rfl rfl hl.1 hst (lv_room (m := m) (pc := pc) (ls := ls) (rest := st) hw) hd hcl) hS (fun q _ h => C.2.2.2.2.1 q h) (fun q h => C.2.2.2.2.1 q h) ?_
  rintro r ⟨x, V'⟩ t H1 locs1 ht _ ⟨rfl, hp⟩ hB _ _ hS1
  exact kk x V' hp H1 locs1 ls (by rw [← ht]; exact hB) hS1 hl
theorem g_callV (C : Cx p s m args meth c cc nL own ret D cy g A) {y : MethodName} {ccy : ByteArray} {maxLy d index b : Nat} {rety : Option FieldType} (av : List Value) (rest : List Value) {post : VT → Prop}
    (hM : MetV l y ccy maxLy rety d D cy g (.ref b :: av) V post) (hL : LkV own index y ccy maxLy rety av.length) (hb : rcv g b y.cls) (hst : st = av.reverse ++ .ref b :: rest) (hw : (rest.map fun v => v.category).sum ≤ 8) (hR : d + 1 ≤ R.frames ∧ 8 + (maxLy + 11) + 33 * d ≤ R.locals) (hcl : cells ≤ R.cells ∧ slots ≤ R.slots) (hd : decode cc pc = .ok (.invokevirtual index, 3))
    (kk : ∀ (V' : VT), post V' → G p l e R s m args below meth c nL cells slots Q D cy g A H0 V' (pc + 3) lv rest) : G p l e R s m args below meth c nL cells slots Q D cy g A H0 V pc lv st := by
  intro H locs ls hP hS hl
  obtain ⟨⟨l1, l2, l3, l4, l5⟩, l6⟩ := hL
  obtain ⟨hbL, hb2⟩ := hb
  obtain ⟨ci, fs, T, N, hb3, hb4⟩ := hb2 cy V
  have cw : CallW R s args own y.cls index y ccy maxLy rety (.code y ccy maxLy rety :: wsG) (rmd d) 0 0 av.length :=
    cwV (C := y.cls) av.length C.1.2.2.2.2 (wsG_all (fun w hw => by
      simp only [wsV, List.mem_append, List.mem_cons, List.not_mem_nil, or_false] at hw
      rcases hw with (rfl | rfl | rfl | rfl) | rfl | h
      · exact l1
      · exact l2
      · exact l3
      · exact l4
      · exact l5
      · exact h)) rfl rfl rfl ⟨rfl, l6⟩ hR
  refine va_callv (va_runV (As := av) (rest := rest) C.1 hM cw ⟨PcV_blind, cls_of (o := 0) C hbL hb3 hb4 hP, fun U hU hW => ⟨rfl, by rw [hU]; exact hP, va_K.moved hW.alike C.2.1, NW_warm hW C.2.2.1⟩⟩ rfl rfl hl.1 hst (lv_room (m := m) (pc := pc) (ls := ls) (rest := st) hw) hd hcl) hS (fun q _ h => C.2.2.2.2.1 q h) (fun q h => C.2.2.2.2.1 q h) ?_
  rintro V' t H1 locs1 ht _ hp hB _ _ hS1
  exact kk V' hp H1 locs1 ls (by rw [← ht]; exact hB) hS1 hl
/-- a static method of the same class -/
theorem g_callSI (C : Cx p s m args meth c cc nL own ret D cy g A) {y : MethodName} {ccy : ByteArray} {maxLy d index : Nat} {rety : Option FieldType} (av : List Value) (rest : List Value) {post : Int → VT → Prop}
    (hM : MetI l y ccy maxLy rety d D cy g av V post) (hL : LkS own index y ccy maxLy rety av.length) (hst : st = av.reverse ++ rest) (hw : (rest.map fun v => v.category).sum ≤ 8) (hR : d + 1 ≤ R.frames ∧ 8 + (maxLy + 11) + 33 * d ≤ R.locals) (hcl : cells ≤ R.cells ∧ slots ≤ R.slots) (hd : decode cc pc = .ok (.invokestatic index, 3))
    (kk : ∀ (r : Int) (V' : VT), post r V' → G p l e R s m args below meth c nL cells slots Q D cy g A H0 V' (pc + 3) lv (vI r :: rest)) : G p l e R s m args below meth c nL cells slots Q D cy g A H0 V pc lv st := by
  intro H locs ls hP hS hl
  obtain ⟨⟨l0, l1, l2, l3, l4⟩, l6⟩ := hL
  have cw : CallB R s args own index y ccy maxLy rety (.code y ccy maxLy rety :: wsG) (rmd d) 0 0 av.length ∧ (Cond.static y).before args s = true :=
    cwS av.length C.1.2.2.2.2 (wsG_all (fun w hw => by
      simp only [wsS, List.mem_append, List.mem_cons, List.not_mem_nil, or_false] at hw
      rcases hw with (rfl | rfl | rfl) | rfl | h
      · exact l1
      · exact l2
      · exact l3
      · exact l4
      · exact h)) rfl rfl rfl ⟨l0, l6⟩ hR
  refine va_calli (va_runS (As := av) (rest := rest) C.1 hM cw ⟨PcV_blind, fun U hU hW => ⟨rfl, by rw [hU]; exact hP, va_K.moved hW.alike C.2.1, NW_warm hW C.2.2.1⟩⟩ rfl rfl hl.1 hst (lv_room (m := m) (pc := pc) (ls := ls) (rest := st) hw) hd hcl) hS (fun q _ h => C.2.2.2.2.1 q h) (fun q h => C.2.2.2.2.1 q h) ?_
  rintro r ⟨x, V'⟩ t H1 locs1 ht _ ⟨rfl, hp⟩ hB _ _ hS1
  exact kk x V' hp H1 locs1 ls (by rw [← ht]; exact hB) hS1 hl
theorem g_callSV (C : Cx p s m args meth c cc nL own ret D cy g A) {y : MethodName} {ccy : ByteArray} {maxLy d index : Nat} {rety : Option FieldType} (av : List Value) (rest : List Value) {post : VT → Prop}
    (hM : MetV l y ccy maxLy rety d D cy g av V post) (hL : LkS own index y ccy maxLy rety av.length) (hst : st = av.reverse ++ rest) (hw : (rest.map fun v => v.category).sum ≤ 8) (hR : d + 1 ≤ R.frames ∧ 8 + (maxLy + 11) + 33 * d ≤ R.locals) (hcl : cells ≤ R.cells ∧ slots ≤ R.slots) (hd : decode cc pc = .ok (.invokestatic index, 3))
    (kk : ∀ (V' : VT), post V' → G p l e R s m args below meth c nL cells slots Q D cy g A H0 V' (pc + 3) lv rest) : G p l e R s m args below meth c nL cells slots Q D cy g A H0 V pc lv st := by
  intro H locs ls hP hS hl
  obtain ⟨⟨l0, l1, l2, l3, l4⟩, l6⟩ := hL
  have cw : CallB R s args own index y ccy maxLy rety (.code y ccy maxLy rety :: wsG) (rmd d) 0 0 av.length ∧ (Cond.static y).before args s = true :=
    cwS av.length C.1.2.2.2.2 (wsG_all (fun w hw => by
      simp only [wsS, List.mem_append, List.mem_cons, List.not_mem_nil, or_false] at hw
      rcases hw with (rfl | rfl | rfl) | rfl | h
      · exact l1
      · exact l2
      · exact l3
      · exact l4
      · exact h)) rfl rfl rfl ⟨l0, l6⟩ hR
  refine va_callv (va_runS (As := av) (rest := rest) C.1 hM cw ⟨PcV_blind, fun U hU hW => ⟨rfl, by rw [hU]; exact hP, va_K.moved hW.alike C.2.1, NW_warm hW C.2.2.1⟩⟩ rfl rfl hl.1 hst (lv_room (m := m) (pc := pc) (ls := ls) (rest := st) hw) hd hcl) hS (fun q _ h => C.2.2.2.2.1 q h) (fun q h => C.2.2.2.2.1 q h) ?_
  rintro V' t H1 locs1 ht _ hp hB _ _ hS1
  exact kk V' hp H1 locs1 ls (by rw [← ht]; exact hB) hS1 hl
/-- a private static method of a nest mate -/
theorem g_callNI (C : Cx p s m args meth c cc nL own ret D cy g A) {y : MethodName} {ccy : ByteArray} {maxLy d index : Nat} {rety : Option FieldType} (av : List Value) (rest : List Value) {post : Int → VT → Prop}
    (hM : MetI l y ccy maxLy rety d D cy g av V post) (hL : LkN own index y ccy maxLy rety av.length) (hst : st = av.reverse ++ rest) (hw : (rest.map fun v => v.category).sum ≤ 8) (hR : d + 1 ≤ R.frames ∧ 8 + (maxLy + 11) + 33 * d ≤ R.locals) (hcl : cells ≤ R.cells ∧ slots ≤ R.slots) (hd : decode cc pc = .ok (.invokestatic index, 3))
    (kk : ∀ (r : Int) (V' : VT), post r V' → G p l e R s m args below meth c nL cells slots Q D cy g A H0 V' (pc + 3) lv (vI r :: rest)) : G p l e R s m args below meth c nL cells slots Q D cy g A H0 V pc lv st := by
  intro H locs ls hP hS hl
  obtain ⟨⟨l1, l2, l3, l4⟩, l6⟩ := hL
  have cw : va_CN R s args own index y "SlotFile" ccy maxLy rety (.code y ccy maxLy rety :: wsG) (rmd d) 0 0 av.length ∧ (Cond.static y).before args s = true ∧ True :=
    ⟨va_cnB av.length C.1.2.2.2.2 (wsG_all (fun w hw => by
      rcases List.mem_cons.mp hw with rfl | h
      · exact l4
      · exact h)) rfl rfl rfl (C.2.2.1 _ l1) (C.1.2.2.2.2 _ l3) l6 hR, C.1.2.2.2.2 _ l2, trivial⟩
  refine va_calli (va_runSN (As := av) (rest := rest) C.1 hM cw ⟨PcV_blind, fun U hU hW => ⟨rfl, by rw [hU]; exact hP, va_K.moved hW.alike C.2.1, NW_warm hW C.2.2.1⟩⟩ rfl rfl hl.1 hst (lv_room (m := m) (pc := pc) (ls := ls) (rest := st) hw) hd hcl) hS (fun q _ h => C.2.2.2.2.1 q h) (fun q h => C.2.2.2.2.1 q h) ?_
  rintro r ⟨x, V'⟩ t H1 locs1 ht _ ⟨rfl, hp⟩ hB _ _ hS1
  exact kk x V' hp H1 locs1 ls (by rw [← ht]; exact hB) hS1 hl
end
theorem rcv_Log {g : GT} {a : Nat} {o : Int} (h : isO g 0 a o) : rcv g a RX0 := ⟨h.1, fun cy V => ⟨0, _, TX0, 4, pF_Log h V, rfl⟩⟩
theorem rcv_Page {g : GT} {a : Nat} {o : Int} (h : isO g 1 a o) : rcv g a RX1 := ⟨h.1, fun cy V => ⟨1, _, TX1, 13, pF_Page h V, rfl⟩⟩
theorem rcv_Store {g : GT} {a : Nat} {o : Int} (h : isO g 2 a o) : rcv g a RX2 := ⟨h.1, fun cy V => ⟨2, _, TX2, 1, pF_Store h V, rfl⟩⟩
theorem rcv_Sf {g : GT} {a : Nat} {o : Int} (h : isO g 3 a o) : rcv g a RX3 := ⟨h.1, fun cy V => ⟨3, _, TX3, 4, pF_Sf h V, rfl⟩⟩
theorem rcv_Mod {g : GT} {a : Nat} {o : Int} (h : isO g 4 a o) : rcv g a RX4 := ⟨h.1, fun cy V => ⟨4, _, TX4, 8, pF_Mod h V, rfl⟩⟩
