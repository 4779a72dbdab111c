/-! the pool grows: what constructors do -/
def gAdd (g : GT) (a k n : Nat) (o t : Int) : GT := (gL g ++ [a], fun b => if b = a then k else gK g b, fun b => if b = a then fun _ => none else gR g b, fun b => if b = a then n else gN g b, fun b => if b = a then o else gO g b, fun b => if b = a then t else gT g b)
def gRef (g : GT) (a j v : Nat) : GT := (gL g, gK g, fun b i => if b = a ∧ i = j then some v else gR g b i, gN g, gO g, gT g)
theorem pF_add_ne {cy : ClassId × ClassId} {g : GT} {V : VT} {a k n b : Nat} {o t : Int} (h : b ≠ a) : pF cy (gAdd g a k n o t) V b = pF cy g V b := by
  have eR : gR (gAdd g a k n o t) b = gR g b := if_neg h
  have eK : gK (gAdd g a k n o t) b = gK g b := if_neg h
  have eN : gN (gAdd g a k n o t) b = gN g b := if_neg h
  have eO : gO (gAdd g a k n o t) b = gO g b := if_neg h
  have eT : gT (gAdd g a k n o t) b = gT g b := if_neg h
  unfold pF
  rw [eR, eK, eN, eO, eT]
theorem pF_ref_ne {cy : ClassId × ClassId} {g : GT} {V : VT} {a j v b : Nat} (h : b ≠ a) : pF cy (gRef g a j v) V b = pF cy g V b := by
  have eR : gR (gRef g a j v) b = gR g b := funext fun i => if_neg (fun z => h z.1)
  have eK : gK (gRef g a j v) b = gK g b := rfl
  have eN : gN (gRef g a j v) b = gN g b := rfl
  have eO : gO (gRef g a j v) b = gO g b := rfl
  have eT : gT (gRef g a j v) b = gT g b := rfl
  unfold pF
  rw [eR, eK, eN, eO, eT]
theorem pw_add {cy : ClassId × ClassId} {g : GT} {V : VT} {a k n : Nat} {o t : Int} (h : a ∉ gL g) : pw cy (gAdd g a k n o t) V = pw cy g V ++ [(a, pF cy (gAdd g a k n o t) V a)] := by
  show va_pl (gL g ++ [a]) _ = _
  unfold pw va_pl
  rw [List.map_append]
  congr 1
  apply List.map_congr_left
  intro b hb
  rw [pF_add_ne (b := b) (a := a) (fun e => h (e ▸ hb))]
theorem Apart_add {g : GT} {a k n : Nat} {o t : Int} (hA : Apart g) (h : a ∉ gL g) (hf : ∀ b ∈ gL g, ¬ (gO g b = o ∧ gT g b = t)) : Apart (gAdd g a k n o t) := by
  refine ⟨List.nodup_append.mpr ⟨hA.1, List.nodup_cons.mpr ⟨List.not_mem_nil, List.nodup_nil⟩, fun x hx y hy e => h (by rw [List.mem_singleton] at hy; rw [← hy, ← e]; exact hx)⟩, ?_⟩
  intro x hx y hy e1 e2
  have hx' : x ∈ gL g ∨ x = a := by rcases List.mem_append.mp hx with z | z; exact Or.inl z; exact Or.inr (List.mem_singleton.mp z)
  have hy' : y ∈ gL g ∨ y = a := by rcases List.mem_append.mp hy with z | z; exact Or.inl z; exact Or.inr (List.mem_singleton.mp z)
  have oO : ∀ z, gO (gAdd g a k n o t) z = if z = a then o else gO g z := fun _ => rfl
  have oT : ∀ z, gT (gAdd g a k n o t) z = if z = a then t else gT g z := fun _ => rfl
  rw [oO, oO] at e1
  rw [oT, oT] at e2
  by_cases h1 : x = a
  · by_cases h2 : y = a
    · rw [h1, h2]
    · rw [if_pos h1, if_neg h2] at e1 e2
      exact absurd ⟨e1.symm, e2.symm⟩ (hf y (hy'.resolve_right h2))
  · by_cases h2 : y = a
    · rw [if_neg h1, if_pos h2] at e1 e2
      exact absurd ⟨e1, e2⟩ (hf x (hx'.resolve_right h1))
    · rw [if_neg h1, if_neg h2] at e1 e2
      exact hA.2 x (hx'.resolve_right h1) y (hy'.resolve_right h2) e1 e2
theorem Apart_ref {g : GT} {a j v : Nat} (hA : Apart g) : Apart (gRef g a j v) := hA
theorem new_out {cy : ClassId × ClassId} {g : GT} {V : VT} {A : Nat → Prop} {q : Nat} {e : va_E} (hD : va_D A (pw cy g V ++ [(q, e)])) : q ∉ gL g ∧ A q := by
  have hlast : (pw cy g V ++ [(q, e)])[(pw cy g V).length]? = some (q, e) := by rw [List.getElem?_append_right (Nat.le_refl _)]; simp
  refine ⟨fun hq => ?_, hD.2 _ _ hlast⟩
  obtain ⟨k, hk⟩ := pw_at (cy := cy) (V := V) hq
  have hlt : k < (pw cy g V).length := (List.getElem?_eq_some_iff.mp hk).1
  have := hD.1 k (pw cy g V).length (q, pF cy g V q) (q, e) (by rw [List.getElem?_append_left hlt]; exact hk) hlast rfl
  omega
theorem pw_setR {cy : ClassId × ClassId} {g : GT} {V : VT} {A : Nat → Prop} {a k j v : Nat} {e : va_E} (hA : Apart g) (hq : ∀ q ∈ gL g, A q) (ha : a ∈ gL g) (hk : (pw cy g V)[k]? = some (a, pF cy g V a)) (he : pF cy (gRef g a j v) V a = e) : (pw cy g V).set k (a, e) = pw cy (gRef g a j v) V := by
  have hD : va_D A ([] ++ pw cy g V) := pw_D hA hq
  have h1 := va_pl_set (X := []) (e := e) hD ha (by simpa using hk)
  simp only [List.nil_append] at h1
  rw [h1]
  show va_pl (gL g) _ = va_pl (gL g) _
  unfold va_pl
  apply List.map_congr_left
  intro b hb
  by_cases hba : b = a
  · subst hba
    rw [va_up_self, he]
  · rw [va_up_ne _ _ hba, pF_ref_ne hba]
theorem lw_arrI : Cond.arrayClass .int ∈ wsG := List.mem_filter.mpr ⟨by decide +kernel, rfl⟩
theorem lw_oi1 : Cond.instanceMethod Lib.objectInit ∈ wsG := List.mem_filter.mpr ⟨by decide +kernel, rfl⟩
theorem lw_oi2 : Cond.code Lib.objectInit ⟨#[0xb1]⟩ 1 none ∈ wsG := List.mem_filter.mpr ⟨by decide +kernel, rfl⟩
section
variable {p : Program} {l : Launch} {e : Env} {R : Room} {s : State} {m : MethodId} {args : Array Value} {below : List Frame} {meth : Method} {c : Code} {cells slots nL : Nat} {Q : State → Prop}
variable {cc : ByteArray} {own : String} {ret : Option FieldType} {D : va_G} {cy : ClassId × ClassId} {g : GT} {A : Nat → Prop} {H0 : Heap} {V : VT} {pc : Nat} {lv : List (Nat × Value)} {st : List Value}
theorem Cx.grow {g' : GT} (C : Cx p s m args meth c cc nL own ret D cy g A) (h1 : Apart g') (h2 : ∀ q ∈ gL g', A q) : Cx p s m args meth c cc nL own ret D cy g' A := ⟨C.1, C.2.1, C.2.2.1, h1, h2, C.2.2.2.2.2⟩
theorem Cx.add {a k n : Nat} {o t : Int} (C : Cx p s m args meth c cc nL own ret D cy g A) (h : a ∉ gL g) (ha : A a) (hf : ∀ b ∈ gL g, ¬ (gO g b = o ∧ gT g b = t)) : Cx p s m args meth c cc nL own ret D cy (gAdd g a k n o t) A :=
  C.grow (Apart_add C.2.2.2.1 h hf) (fun q hq => by
    rcases List.mem_append.mp hq with z | z
    · exact C.2.2.2.2.1 q z
    · rw [List.mem_singleton.mp z]; exact ha)
theorem g_newI (C : Cx p s m args meth c cc nL own ret D cy g A) (hA : ∀ q, H0.size ≤ q → A q) (o t : Int) (n : Nat) (hn : n < 100000) (hf : ∀ b ∈ gL g, ¬ (gO g b = o ∧ gT g b = t)) (hV : ∀ j, V o t j = 0) (hc : cells + 1 ≤ R.cells) (hs : slots + n ≤ R.slots) (hd : decode cc pc = .ok (.newarray .int, 2))
    (kk : ∀ q, q ∉ gL g → A q → Cx p s m args meth c cc nL own ret D cy (gAdd g q 5 n o t) A → G p l e R s m args below meth c nL (cells + 1) (slots + n) Q D cy (gAdd g q 5 n o t) A H0 V (pc + 2) lv (.ref q :: st)) : G p l e R s m args below meth c nL cells slots Q D cy g A H0 V pc lv (vI n :: st) := by
  intro H locs ls hP hS hl
  have hr : rng (n : Int) := ⟨by omega, by omega⟩
  refine va_newa (atype := .int) C.1.1 C.1.2.1 (C.1.2.2.2.2 _ lw_arrI) (ty := .int) rfl C.2.1 hP (pw_D C.2.2.2.1 C.2.2.2.2.1) hS hA (N' := n) (a0 := (n, .inl (fun _ => 0))) (fun cA => rfl) (fun h => by have := (iI_lt hr rng0).mp h; omega) (by rw [iI_clamp (by omega) hr]; simp) (by show n * 4 ≤ _; omega) hc hs hd (fun q cA H1 hK1 hP1 hD1 hS1 => ?_)
  obtain ⟨hq, hAq⟩ := new_out hD1
  have h1 := (hK1.2 2 (cA, .int) rfl).2
  have h2 := (C.2.1.2 0 (cy.1, .int) rfl).2
  have e1 : cA = cy.1 := Option.some.inj (Eq.trans (Eq.symm (show s.vm.findClass _ = some cA from h1)) (show s.vm.findClass _ = some cy.1 from h2))
  subst e1
  refine kk q hq hAq (C.add hq hAq hf) H1 locs ls ?_ hS1 hl
  rw [pw_add hq]
  have e : pF cy (gAdd g q 5 n o t) V q = .inl (cy.1, n, .inl (fun _ => 0)) := by
    have e0 : ∀ k : Nat, iI (V o t k) = 0 := fun k => by rw [hV]; rfl
    have eK : gK (gAdd g q 5 n o t) q = 5 := if_pos rfl
    have eN : gN (gAdd g q 5 n o t) q = n := if_pos rfl
    have eO : gO (gAdd g q 5 n o t) q = o := if_pos rfl
    have eT : gT (gAdd g q 5 n o t) q = t := if_pos rfl
    unfold pF
    rw [eK, eN, eO, eT]
    simp [e0]
  rw [e]
  exact hP1
theorem g_newO (C : Cx p s m args meth c cc nL own ret D cy g A) (hA : ∀ q, H0.size ≤ q → A q) {Cn : String} {T : u_T} {N ci index : Nat} (hin : ∀ w ∈ u_ws Cn T N, w ∈ wsG) (ty : Nat → FieldType) (hty : ∀ k, k < N → parseFieldDescriptor (T k).2.2.1 = some (ty k)) (hcl : Cond.classLink own index Cn ∈ wsG) (hinst : Cond.instantiable Cn N ∈ wsG) (hini : Cond.initialized Cn ∈ wsG) (hci : vwCl[ci]? = some (Cn, T, N)) {fs : List Value} (hfs : ∀ j, j < N → defaultValue (ty j) = vp_V fs j)
    (o : Int) (hf : ∀ b ∈ gL g, ¬ (gO g b = o ∧ gT g b = 0)) (he : ∀ q, pF cy (gAdd g q ci 0 o 0) V q = .inr (ci, fs)) (hc : cells + 1 ≤ R.cells) (hs : slots + N ≤ R.slots) (hd : decode cc pc = .ok (.new index, 3))
    (kk : ∀ q, q ∉ gL g → A q → Cx p s m args meth c cc nL own ret D cy (gAdd g q ci 0 o 0) A → G p l e R s m args below meth c nL (cells + 1) (slots + N) Q D cy (gAdd g q ci 0 o 0) A H0 V (pc + 3) lv (.ref q :: st)) : G p l e R s m args below meth c nL cells slots Q D cy g A H0 V pc lv st := by
  intro H locs ls hP hS hl
  refine va_new (T := T) (N := N) (ci := ci) (fs := fs) C.1.1 C.1.2.1 C.1.2.2.2.2 hin ty hty C.1.2.2.2.1 (C.1.2.2.2.2 _ hcl) (C.1.2.2.2.2 _ hinst) (C.1.2.2.2.2 _ hini) C.2.1 hP (pw_D C.2.2.2.1 C.2.2.2.2.1) hS hA hci hfs hc hs hd (fun q H1 hP1 hD1 hS1 => ?_)
  obtain ⟨hq, hAq⟩ := new_out hD1
  refine kk q hq hAq (C.add hq hAq hf) H1 locs ls ?_ hS1 hl
  rw [pw_add hq, he]
  exact hP1
theorem g_newQ (C : Cx p s m args meth c cc nL own ret D cy g A) (hA : ∀ q, H0.size ≤ q → A q) (hAO : va_AO RX1 s) {index : Nat} (hcl : Cond.classLink own index RX1 ∈ wsG) (o : Int) (n : Nat) (hn : n < 100000) (hf : ∀ b ∈ gL g, ¬ (gO g b = o ∧ gT g b = 0)) (hc : cells + 1 ≤ R.cells) (hs : slots + n ≤ R.slots) (hd : decode cc pc = .ok (.anewarray index, 3))
    (kk : ∀ q, q ∉ gL g → A q → Cx p s m args meth c cc nL own ret D cy (gAdd g q 6 n o 0) A → G p l e R s m args below meth c nL (cells + 1) (slots + n) Q D cy (gAdd g q 6 n o 0) A H0 V (pc + 3) lv (.ref q :: st)) : G p l e R s m args below meth c nL cells slots Q D cy g A H0 V pc lv (vI n :: st) := by
  intro H locs ls hP hS hl
  have hr : rng (n : Int) := ⟨by omega, by omega⟩
  refine va_newq C.1.1 C.1.2.1 C.1.2.2.2.1 (C.1.2.2.2.2 _ hcl) hAO C.2.1 hP (pw_D C.2.2.2.1 C.2.2.2.2.1) hS hA (N' := n) (fun h => by have := (iI_lt hr rng0).mp h; omega) (by rw [iI_clamp (by omega) hr]; simp) (by omega) hc hs hd (fun q cA H1 hK1 hP1 hD1 hS1 => ?_)
  obtain ⟨hq, hAq⟩ := new_out hD1
  obtain ⟨kA, comp, -, -, -, h1⟩ := (hK1.2 2 (cA, .object RX1) rfl).2
  obtain ⟨kB, comp2, -, -, -, h2⟩ := (C.2.1.2 1 (cy.2, .object RX1) rfl).2
  have e1 : cA = cy.2 := Option.some.inj (h1.symm.trans h2)
  subst e1
  refine kk q hq hAq (C.add hq hAq hf) H1 locs ls ?_ hS1 hl
  rw [pw_add hq]
  have e : pF cy (gAdd g q 6 n o 0) V q = .inl (cy.2, n, .inr (.inr (.inr (.inr (fun _ => none))))) := by
    have eK : gK (gAdd g q 6 n o 0) q = 6 := if_pos rfl
    have eN : gN (gAdd g q 6 n o 0) q = n := if_pos rfl
    have eR : gR (gAdd g q 6 n o 0) q = fun _ => none := if_pos rfl
    unfold pF
    rw [eK, eN, eR]
    simp
  rw [e]
  exact hP1
theorem g_putR (C : Cx p s m args meth c cc nL own ret D cy g A) (hnm0 : meth.name = "<init>") {Cn : String} {T : u_T} {N ci index a v : Nat} {fs : List Value} (hin : ∀ w ∈ u_ws Cn T N, w ∈ wsG) (ty0 : Nat → FieldType) (hty : ∀ k, k < N → parseFieldDescriptor (T k).2.2.1 = some (ty0 k)) (hnm : ∀ a, a < N → ∀ b, b < N → a ≠ b → (T a).2.1 ≠ (T b).2.1) (hc : vwCl[ci]? = some (Cn, T, N)) (ha : a ∈ gL g) (he : pF cy g V a = .inr (ci, fs)) (k : Nat) (hk : k < N) (hlink : Cond.fieldLink own index (T k).1 (T k).2.1 (T k).2.2.1 ∈ wsG) (hfin : (T k).2.2.2 = true) (hdecl : (T k).1 = own) {ty : FieldType} (hd1 : parseFieldDescriptor (T k).2.2.1 = some ty) (hn : narrow ty (.ref v) = .ref v) (hfit : fits ty (.ref v) = true) (hl1 : k < fs.length)
    (he2 : pF cy (gRef g a k v) V a = .inr (ci, fs.set k (.ref v))) (hd : decode cc pc = .ok (.putfield index, 3))
    (kk : Cx p s m args meth c cc nL own ret D cy (gRef g a k v) A → G p l e R s m args below meth c nL cells slots Q D cy (gRef g a k v) A H0 V (pc + 3) lv st) : G p l e R s m args below meth c nL cells slots Q D cy g A H0 V pc lv (.ref v :: .ref a :: st) := by
  intro H locs ls hP hS hl
  obtain ⟨q0, hq0⟩ := pw_at (cy := cy) (V := V) ha
  have hset := pw_setR C.2.2.2.1 C.2.2.2.2.1 ha hq0 he2
  rw [he] at hq0
  refine va_putF C.1.1 C.1.2.1 C.1.2.2.2.2 hin ty0 hty hnm C.1.2.2.2.1 C.2.1 hP (pw_D C.2.2.2.1 C.2.2.2.2.1) hS q0 hq0 hc k hk (C.1.2.2.2.2 _ hlink) (fun _ h9 => h9) hfin hnm0 hdecl hd1 hn hfit hl1 hd (fun H1 locs1 hP1 _ hS1 => ?_)
  rw [hset] at hP1
  exact kk (C.grow (Apart_ref C.2.2.2.1) C.2.2.2.2.1) H1 locs1 ls hP1 hS1 hl
theorem g_aast (C : Cx p s m args meth c cc nL own ret D cy g A) {a v n : Nat} {i o : Int} (ha : isQ g a n) (hi : 0 ≤ i ∧ i < n) (hn : n < 2147483648) (hv : isO g 1 v o) (hd : decode cc pc = .ok (.aastore, 1))
    (kk : Cx p s m args meth c cc nL own ret D cy (gRef g a i.toNat v) A → G p l e R s m args below meth c nL cells slots Q D cy (gRef g a i.toNat v) A H0 V (pc + 1) lv st) : G p l e R s m args below meth c nL cells slots Q D cy g A H0 V pc lv (.ref v :: vI i :: .ref a :: st) := by
  intro H locs ls hP hS hl
  obtain ⟨h1, h2, h3⟩ := ha
  have hr : rng i := ⟨by omega, by omega⟩
  obtain ⟨q0, hq0⟩ := pw_at (cy := cy) (V := V) h1
  obtain ⟨q1, hq1⟩ := pw_at (cy := cy) (V := V) hv.1
  have he : pF cy g V a = .inl (cy.2, n, .inr (.inr (.inr (.inr (gR g a))))) := by simp [pF, h2, h3]
  have he2 : pF cy (gRef g a i.toNat v) V a = .inl (cy.2, n, .inr (.inr (.inr (.inr (va_up (gR g a) (iI i).toNatClampNeg (some v)))))) := by
    rw [iI_clamp hi.1 hr]
    have e9 : gR (gRef g a i.toNat v) a = va_up (gR g a) i.toNat (some v) := by
      funext j
      show (if a = a ∧ j = i.toNat then some v else gR g a j) = _
      by_cases hj : j = i.toNat
      · subst hj; rw [va_up_self, if_pos ⟨rfl, rfl⟩]
      · rw [va_up_ne _ _ hj, if_neg (fun z => hj z.2)]
    have e8 : pF cy (gRef g a i.toNat v) V a = .inl (cy.2, n, .inr (.inr (.inr (.inr (gR (gRef g a i.toNat v) a))))) := by
      have k2 : gK (gRef g a i.toNat v) a = 6 := h2
      have k3 : gN (gRef g a i.toNat v) a = n := h3
      simp [pF, k2, k3]
    rw [e8, e9]
  have hset := pw_setR C.2.2.2.1 C.2.2.2.2.1 h1 hq0 he2
  rw [he] at hq0
  rw [pF_Page hv] at hq1
  refine va_astq C.1.1 C.1.2.1 C.2.1 hP (pw_D C.2.2.2.1 C.2.2.2.2.1) hS q0 1 q1 1 (r := (RX1, TX1, 13)) hq0 rfl hq1 rfl (iI_in hi.1 hi.2 hr) hd (fun H1 locs1 hP1 _ hS1 => ?_)
  rw [hset] at hP1
  exact kk (C.grow (Apart_ref C.2.2.2.1) C.2.2.2.2.1) H1 locs1 ls hP1 hS1 hl
theorem g_objI (C : Cx p s m args meth c cc nL own ret D cy g A) {idx a : Nat} (hlink : Cond.methodLink own idx Lib.objectInit ∈ wsG) (hfr : 1 ≤ R.frames) (hlo : (st.map fun v => v.category).sum + 12 ≤ R.locals) (hd : decode cc pc = .ok (.invokespecial idx, 3)) (kk : G p l e R s m args below meth c nL cells slots Q D cy g A H0 V (pc + 3) lv st) : G p l e R s m args below meth c nL cells slots Q D cy g A H0 V pc lv (.ref a :: st) := by
  intro H locs ls hP hS hl
  refine W.objInit C.1.1 C.1.2.1 C.1.2.2.2.1 (C.1.2.2.2.2 _ hlink) (C.1.2.2.2.2 _ lw_oi1) (C.1.2.2.2.2 _ lw_oi2) rfl (hl.1.trans C.1.2.2.1.symm) rfl hd hfr ?_ (kk H locs ls hP hS hl)
  show 2 * 0 + _ + 12 ≤ _
  omega
end
/-! contracts of constructors -/
def AN (g : GT) (n0 : Nat) : Nat → Prop := fun q => q ∈ gL g ∨ n0 ≤ q
def rmn (d mc ms : Nat) : Room := { frames := d, cells := mc, slots := ms, locals := 33 * d }
def PcN (D : va_G) (cy : ClassId × ClassId) (g : GT) (V : VT) (av : List Value) (n0 : Nat) : Array Value → State → Prop :=
  va_Pc av (fun U => va_P D vwCl (pw cy g V) U.heap ∧ va_K D vwCl (tyc cy) U ∧ NW U ∧ va_AO RX1 U ∧ U.heap.size = n0)
def QcN (D : va_G) (cy : ClassId × ClassId) (g : GT) (n0 : Nat) (post : GT → VT → Prop) : Array Value → State → Outcome → State → Prop :=
  va_Qv (S := GT × VT) (fun u => post u.1 u.2 ∧ Apart u.1 ∧ ∀ q ∈ gL u.1, AN g n0 q) (fun u t => va_P D vwCl (pw cy u.1 u.2) t.heap) (AN g n0)
def MetN (l : Launch) (y : MethodName) (cc : ByteArray) (maxL d mc ms : Nat) (D : va_G) (cy : ClassId × ClassId) (g : GT) (av : List Value) (V : VT) (n0 : Nat) (post : GT → VT → Prop) : Prop :=
  Met l y (.code y cc maxL none :: wsG) (rmn d mc ms) (PcN D cy g V av n0) (QcN D cy g n0 post) mc ms (AN g n0)
theorem PcN_blind {D : va_G} {cy : ClassId × ClassId} {g : GT} {V : VT} {av : List Value} {n0 : Nat} : FrameBlind (PcN D cy g V av n0) := by
  rintro a U f mk ⟨h1, h2, h3, h4, h5, h6⟩
  exact ⟨h1, h2, va_K.moved (u := U) (U := U.calling f mk a) (Vm.Alike.refl U.vm) h3, NW_same (u := U) (U := U.calling f mk a) rfl h4, va_AO.moved (u := U) (U := U.calling f mk a) (Vm.Alike.refl U.vm) h5, h6⟩
def LkI (own : String) (idx : Nat) (y : MethodName) (ccy : ByteArray) (maxL : Nat) : Prop :=
  (Cond.methodLink own idx y ∈ wsG ∧ Cond.instanceMethod y ∈ wsG ∧ Cond.initialized y.cls ∈ wsG ∧ Cond.code y ccy maxL none ∈ wsG) ∧ (y.cls ≠ "java/lang/invoke/MethodHandle" ∧ y.cls ≠ "java/lang/invoke/VarHandle" ∧ (parseMethodDescriptor y.desc).map (fun d => d.parameters.length) = some 0) ∧ y.name = "<init>"
def LkIN (own : String) (idx : Nat) (y : MethodName) (ccy : ByteArray) (maxL : Nat) : Prop :=
  (Cond.methodLinkNest own idx y "SlotFile" ∈ nestL ∧ Cond.instanceMethod y ∈ wsG ∧ Cond.initialized y.cls ∈ wsG ∧ Cond.code y ccy maxL none ∈ wsG) ∧ (y.cls ≠ "java/lang/invoke/MethodHandle" ∧ y.cls ≠ "java/lang/invoke/VarHandle" ∧ (parseMethodDescriptor y.desc).map (fun d => d.parameters.length) = some 0) ∧ y.name = "<init>"
section
variable {p : Program} {l : Launch} {e : Env} {R : Room} {s : State} {m : MethodId} {args : Array Value} {below : List Frame} {meth : Method} {c : Code} {cells slots nL : Nat} {Q : State → Prop}
variable {cc : ByteArray} {own : String} {ret : Option FieldType} {D : va_G} {cy : ClassId × ClassId} {g : GT} {A : Nat → Prop} {H0 : Heap} {V : VT} {pc : Nat} {lv : List (Nat × Value)} {st : List Value}
theorem MetN.of {y : MethodName} {maxL d mc ms n0 : Nat} {av : List Value} {post : GT → VT → Prop} (hy : plainName y.cls = true) (hyn : y.name = "<init>") (hlen : (lg_sl av).length ≤ maxL) (hap : Apart g)
    (body : ∀ (p : Program) (e : Env) (s : State) (m : MethodId) (args : Array Value) (below : List Frame) (meth : Method) (c : Code), Cx p s m args meth c cc maxL y.cls none D cy g (AN g n0) → meth.name = "<init>" → va_AO RX1 s → (∀ q, s.heap.size ≤ q → AN g n0 q) →
      G p l e (rmn d mc ms) s m args below meth c maxL 0 0 (MQ below (QcN D cy g n0 post) args s mc ms (AN g n0)) D cy g (AN g n0) s.heap V 0 (lv_args 0 av) []) : MetN l y cc maxL d mc ms D cy g av V n0 post := by
  refine Met.ofW (cc := cc) (maxL := maxL) (ret := none) hy rfl ?_
  intro p e s m args below meth c s₁ B hml hv
  obtain ⟨rfl, hP, hK, hN, hAO, hsz⟩ := hv
  have hts := atoms_spec (ws := .code y cc maxL none :: wsG) B.pre
  have hown : s.vm.findClass y.cls = some m.cls := findClass_of_methodNamed B.named
  have C : Cx p s m av.toArray meth c cc maxL y.cls none D cy g (AN g n0) := ⟨⟨B.exec, B.bytes, hml, hown, fun w hw => hts w (List.mem_cons_of_mem _ hw)⟩, hK, hN, hap, fun _ h => Or.inl h, B.returns, B.notSynchronized⟩
  rw [lg_entry_eq]
  exact body p e s m av.toArray below meth c C ((name_of_methodNamed B.named B.method).1.trans hyn) hAO (fun q hq => Or.inr (by rw [← hsz]; exact hq)) s.heap [] _ hP va_S.rf (lv_entry av hlen)
theorem g_nret {g0 : GT} {n0 mc ms : Nat} {post : GT → VT → Prop} (C : Cx p s m args meth c cc nL own none D cy g (AN g0 n0)) (h1 : cells ≤ mc) (h2 : slots ≤ ms) (hd : decode cc pc = .ok (.return_, 1)) (hp : post g V) :
    G p l e R s m args below meth c nL cells slots (MQ below (QcN D cy g0 n0 post) args s mc ms (AN g0 n0)) D cy g (AN g0 n0) s.heap V pc lv [] := by
  intro H locs ls hP hS hl
  exact W.widen h1 h2 (W.vret C.1.1 C.1.2.1 C.2.2.2.2.2.1 (fun t ht hW => ⟨⟨(g, V), rfl, ⟨hp, C.2.2.2.1, C.2.2.2.2.1⟩, by show va_P D vwCl (pw cy g V) t.heap; rw [ht]; exact hP⟩, hS.F ht⟩) hS.2.2 hd C.2.2.2.2.2.2)
theorem g_callN (C : Cx p s m args meth c cc nL own ret D cy g A) (hA : ∀ q, H0.size ≤ q → A q) (hAO : va_AO RX1 s) {y : MethodName} {ccy : ByteArray} {maxLy d mc ms index b : Nat} (rest : List Value) {post : GT → VT → Prop}
    (hM : ∀ n0, MetN l y ccy maxLy d mc ms D cy g [.ref b] V n0 post) (hL : LkI own index y ccy maxLy) (hw : (rest.map fun v => v.category).sum ≤ 8) (hR : d + 1 ≤ R.frames ∧ 8 + (maxLy + 11) + 33 * d ≤ R.locals) (hcl : cells + mc ≤ R.cells ∧ slots + ms ≤ R.slots) (hd : decode cc pc = .ok (.invokespecial index, 3))
    (kk : ∀ (g' : GT) (V' : VT), post g' V' → Cx p s m args meth c cc nL own ret D cy g' A → G p l e R s m args below meth c nL (cells + mc) (slots + ms) Q D cy g' A H0 V' (pc + 3) lv rest) : G p l e R s m args below meth c nL cells slots Q D cy g A H0 V pc lv (.ref b :: rest) := by
  intro H locs ls hP hS hl
  obtain ⟨⟨l1, l2, l3, l4⟩, l6, l7⟩ := hL
  have cw : CallB R s args own index y ccy maxLy none (.code y ccy maxLy none :: wsG) (rmn d mc ms) mc ms ([] : List Value).length ∧ y.name = "<init>" ∧ (Cond.instanceMethod y).before args s = true :=
    cwI 0 C.1.2.2.2.2 (wsG_all (fun w hw => by
      rcases List.mem_cons.mp hw with rfl | h
      · exact l4
      · exact h)) rfl rfl rfl (C.1.2.2.2.2 _ l3) (C.1.2.2.2.2 _ l1) (C.1.2.2.2.2 _ l2) l7 l6 hR
  refine va_callv (va_runI (As := []) (rest := rest) C.1 (hM H.size) cw ⟨PcN_blind, fun U hU hW => ⟨rfl, by rw [hU]; exact hP, va_K.moved hW.alike C.2.1, NW_warm hW C.2.2.1, va_AO.moved hW.alike hAO, by rw [hU]⟩⟩ rfl rfl hl.1 rfl (lv_room (m := m) (pc := pc) (ls := ls) (rest := .ref b :: rest) hw) hd hcl) hS (fun q hq h => h.elim (C.2.2.2.2.1 q) (fun z => absurd hq (Nat.not_lt.mpr z))) (fun q h => h.elim (C.2.2.2.2.1 q) (fun z => hA q (Nat.le_trans hS.1 z))) ?_
  rintro ⟨g', V'⟩ t H1 locs1 ht _ ⟨hp, hap, hin⟩ hB _ _ hS1
  exact kk g' V' hp (C.grow hap (fun q hq => (hin q hq).elim (C.2.2.2.2.1 q) (fun z => hA q (Nat.le_trans hS.1 z)))) H1 locs1 ls (by rw [← ht]; exact hB) hS1 hl
theorem g_callNN (C : Cx p s m args meth c cc nL own ret D cy g A) (hA : ∀ q, H0.size ≤ q → A q) (hAO : va_AO RX1 s) {y : MethodName} {ccy : ByteArray} {maxLy d mc ms index b : Nat} (rest : List Value) {post : GT → VT → Prop}
    (hM : ∀ n0, MetN l y ccy maxLy d mc ms D cy g [.ref b] V n0 post) (hL : LkIN own index y ccy maxLy) (hw : (rest.map fun v => v.category).sum ≤ 8) (hR : d + 1 ≤ R.frames ∧ 8 + (maxLy + 11) + 33 * d ≤ R.locals) (hcl : cells + mc ≤ R.cells ∧ slots + ms ≤ R.slots) (hd : decode cc pc = .ok (.invokespecial index, 3))
    (kk : ∀ (g' : GT) (V' : VT), post g' V' → Cx p s m args meth c cc nL own ret D cy g' A → G p l e R s m args below meth c nL (cells + mc) (slots + ms) Q D cy g' A H0 V' (pc + 3) lv rest) : G p l e R s m args below meth c nL cells slots Q D cy g A H0 V pc lv (.ref b :: rest) := by
  intro H locs ls hP hS hl
  obtain ⟨⟨l1, l2, l3, l4⟩, l6, l7⟩ := hL
  have cw : va_CN R s args own index y "SlotFile" ccy maxLy none (.code y ccy maxLy none :: wsG) (rmn d mc ms) mc ms ([] : List Value).length ∧ y.name = "<init>" ∧ (Cond.instanceMethod y).before args s = true :=
    ⟨va_cnB 0 C.1.2.2.2.2 (wsG_all (fun w hw => by
      rcases List.mem_cons.mp hw with rfl | h
      · exact l4
      · exact h)) rfl rfl rfl (C.2.2.1 _ l1) (C.1.2.2.2.2 _ l3) l6 hR, l7, C.1.2.2.2.2 _ l2⟩
  refine va_callv (va_runIN (As := []) (rest := rest) C.1 (hM H.size) cw ⟨PcN_blind, fun U hU hW => ⟨rfl, by rw [hU]; exact hP, va_K.moved hW.alike C.2.1, NW_warm hW C.2.2.1, va_AO.moved hW.alike hAO, by rw [hU]⟩⟩ rfl rfl hl.1 rfl (lv_room (m := m) (pc := pc) (ls := ls) (rest := .ref b :: rest) hw) hd hcl) hS (fun q hq h => h.elim (C.2.2.2.2.1 q) (fun z => absurd hq (Nat.not_lt.mpr z))) (fun q h => h.elim (C.2.2.2.2.1 q) (fun z => hA q (Nat.le_trans hS.1 z))) ?_
  rintro ⟨g', V'⟩ t H1 locs1 ht _ ⟨hp, hap, hin⟩ hB _ _ hS1
  exact kk g' V' hp (C.grow hap (fun q hq => (hin q hq).elim (C.2.2.2.2.1 q) (fun z => hA q (Nat.le_trans hS.1 z)))) H1 locs1 ls (by rw [← ht]; exact hB) hS1 hl
end
/-! what grew -/
def Gro (a : Nat) (P : Int → Prop) (g g' : GT) : Prop := (∀ b ∈ gL g, b ∈ gL g' ∧ gK g' b = gK g b ∧ gN g' b = gN g b ∧ gO g' b = gO g b ∧ gT g' b = gT g b ∧ (b ≠ a → gR g' b = gR g b)) ∧ ∀ b ∈ gL g', b ∈ gL g ∨ P (gO g' b)
theorem Gro.rfl {a : Nat} {P : Int → Prop} {g : GT} : Gro a P g g := ⟨fun b hb => ⟨hb, Eq.refl _, Eq.refl _, Eq.refl _, Eq.refl _, fun _ => Eq.refl _⟩, fun b hb => Or.inl hb⟩
theorem Gro.add {a q k n : Nat} {o t : Int} {P : Int → Prop} {g g' : GT} (h : Gro a P g g') (hq : q ∉ gL g') (hP : P o) : Gro a P g (gAdd g' q k n o t) := by
  refine ⟨fun b hb => ?_, fun b hb => ?_⟩
  · obtain ⟨h1, h2, h3, h4, h5, h6⟩ := h.1 b hb
    have hne : b ≠ q := fun e => hq (e ▸ h1)
    have eR : gR (gAdd g' q k n o t) b = gR g' b := if_neg hne
    have eK : gK (gAdd g' q k n o t) b = gK g' b := if_neg hne
    have eN : gN (gAdd g' q k n o t) b = gN g' b := if_neg hne
    have eO : gO (gAdd g' q k n o t) b = gO g' b := if_neg hne
    have eT : gT (gAdd g' q k n o t) b = gT g' b := if_neg hne
    rw [eR, eK, eN, eO, eT]
    exact ⟨List.mem_append_left _ h1, h2, h3, h4, h5, h6⟩
  · by_cases hne : b = q
    · right
      have eO : gO (gAdd g' q k n o t) b = o := if_pos hne
      rw [eO]; exact hP
    · have hb' : b ∈ gL g' := by
        rcases List.mem_append.mp hb with z | z
        · exact z
        · exact absurd (List.mem_singleton.mp z) hne
      have eO : gO (gAdd g' q k n o t) b = gO g' b := if_neg hne
      rw [eO]
      exact h.2 b hb'
theorem Gro.ref {a x j v : Nat} {P : Int → Prop} {g g' : GT} (h : Gro a P g g') (hx : x = a ∨ x ∉ gL g) : Gro a P g (gRef g' x j v) := by
  refine ⟨fun b hb => ?_, fun b hb => h.2 b hb⟩
  obtain ⟨h1, h2, h3, h4, h5, h6⟩ := h.1 b hb
  refine ⟨h1, h2, h3, h4, h5, fun hne => ?_⟩
  rw [← h6 hne]
  funext i
  show (if b = x ∧ i = j then some v else gR g' b i) = _
  rw [if_neg]
  rintro ⟨e, -⟩
  rcases hx with z | z
  · exact hne (e.trans z)
  · exact z (e ▸ hb)
theorem Gro.trans {a b : Nat} {P P' : Int → Prop} {g g1 g2 : GT} (h : Gro a P g g1) (h' : Gro b P' g1 g2) (hb : b = a ∨ b ∉ gL g) (hP : ∀ o, P' o → P o) : Gro a P g g2 := by
  refine ⟨fun x hx => ?_, fun x hx => ?_⟩
  · obtain ⟨h1, h2, h3, h4, h5, h6⟩ := h.1 x hx
    obtain ⟨k1, k2, k3, k4, k5, k6⟩ := h'.1 x h1
    refine ⟨k1, k2.trans h2, k3.trans h3, k4.trans h4, k5.trans h5, fun hne => (k6 (fun e => ?_)).trans (h6 hne)⟩
    rcases hb with z | z
    · exact hne (e.trans z)
    · exact z (e ▸ hx)
  · rcases h'.2 x hx with z | z
    · rw [(h'.1 x z).2.2.2.1]; exact h.2 x z
    · exact Or.inr (hP _ z)
theorem Gro.isO {a ci x : Nat} {o : Int} {P : Int → Prop} {g g' : GT} (h : Gro a P g g') (hx : isO g ci x o) : isO g' ci x o := by
  obtain ⟨h1, h2, h3, h4, h5, h6⟩ := h.1 x hx.1
  exact ⟨h1, h2.trans hx.2.1, h4.trans hx.2.2.1, h5.trans hx.2.2.2⟩
theorem Gro.isA {a x n : Nat} {o t : Int} {P : Int → Prop} {g g' : GT} (h : Gro a P g g') (hx : isA g x o t n) : isA g' x o t n := by
  obtain ⟨h1, h2, h3, h4, h5, h6⟩ := h.1 x hx.1
  exact ⟨h1, h2.trans hx.2.1, h4.trans hx.2.2.1, h5.trans hx.2.2.2.1, h3.trans hx.2.2.2.2⟩
theorem Gro.isQ {a x n : Nat} {P : Int → Prop} {g g' : GT} (h : Gro a P g g') (hx : isQ g x n) : isQ g' x n := by
  obtain ⟨h1, h2, h3, h4, h5, h6⟩ := h.1 x hx.1
  exact ⟨h1, h2.trans hx.2.1, h3.trans hx.2.2⟩
theorem Gro.R {a x j : Nat} {v : Option Nat} {P : Int → Prop} {g g' : GT} (h : Gro a P g g') (hx : x ∈ gL g) (hne : x ≠ a) (hv : gR g x j = v) : gR g' x j = v := by rw [(h.1 x hx).2.2.2.2.2 hne]; exact hv
theorem Gro.isPg {a x : Nat} {o : Int} {P : Int → Prop} {g g' : GT} (h : Gro a P g g') (hx : isPg g x o) (hne : x ≠ a) : isPg g' x o := by
  obtain ⟨h0, r1, r2, r3, r4, ⟨a1, b1⟩, ⟨a2, b2⟩, ⟨a3, b3⟩, ⟨a4, b4⟩⟩ := hx
  exact ⟨h.isO h0, r1, r2, r3, r4, ⟨h.R h0.1 hne a1, h.isA b1⟩, ⟨h.R h0.1 hne a2, h.isA b2⟩, ⟨h.R h0.1 hne a3, h.isA b3⟩, ⟨h.R h0.1 hne a4, h.isA b4⟩⟩
theorem Gro.isSt {a x : Nat} {b : Int} {P : Int → Prop} {g g' : GT} (h : Gro a P g g') (hx : isSt g x b) (hne : gK g a ≠ 1 ∧ gK g a ≠ 6) (hxa : x ≠ a) : isSt g' x b := by
  obtain ⟨⟨ob, h0⟩, ps, h1, h2, h3⟩ := hx
  refine ⟨⟨ob, h.isO h0⟩, ps, h.R h0.1 hxa h1, h.isQ h2, fun i i1 i2 => ?_⟩
  obtain ⟨pg, e1, e2⟩ := h3 i i1 i2
  exact ⟨pg, h.R h2.1 (fun e => hne.2 (e ▸ h2.2.1)) e1, h.isPg e2 (fun e => hne.1 (e ▸ e2.1.2.1))⟩
theorem Gro.isLg {a x : Nat} {o : Int} {P : Int → Prop} {g g' : GT} (h : Gro a P g g') (hx : isLg g x o) (hne : x ≠ a) : isLg g' x o := by
  obtain ⟨h0, r1, r2, r3, ⟨a1, b1⟩, ⟨a2, b2⟩, ⟨a3, b3⟩⟩ := hx
  exact ⟨h.isO h0, r1, r2, r3, ⟨h.R h0.1 hne a1, h.isA b1⟩, ⟨h.R h0.1 hne a2, h.isA b2⟩, ⟨h.R h0.1 hne a3, h.isA b3⟩⟩
theorem Gro.fresh {a : Nat} {P : Int → Prop} {g g' : GT} {o t : Int} (h : Gro a P g g') (h1 : ∀ b ∈ gL g, ¬ (gO g b = o ∧ gT g b = t)) (h2 : ¬ P o) : ∀ b ∈ gL g', ¬ (gO g' b = o ∧ gT g' b = t) := by
  rintro b hb ⟨e1, e2⟩
  rcases h.2 b hb with z | z
  · obtain ⟨-, -, -, k4, k5, -⟩ := h.1 b z
    exact h1 b z ⟨k4.symm.trans e1, k5.symm.trans e2⟩
  · exact h2 (e1 ▸ z)
theorem isO_new {g : GT} {q k n : Nat} {o : Int} : isO (gAdd g q k n o 0) k q o := ⟨List.mem_append_right _ (List.mem_singleton.mpr rfl), if_pos rfl, if_pos rfl, if_pos rfl⟩
theorem isA_new {g : GT} {q n : Nat} {o t : Int} : isA (gAdd g q 5 n o t) q o t n := ⟨List.mem_append_right _ (List.mem_singleton.mpr rfl), if_pos rfl, if_pos rfl, if_pos rfl, if_pos rfl⟩
theorem isQ_new {g : GT} {q n : Nat} {o : Int} : isQ (gAdd g q 6 n o 0) q n := ⟨List.mem_append_right _ (List.mem_singleton.mpr rfl), if_pos rfl, if_pos rfl⟩
theorem R_at {g : GT} {a j v : Nat} : gR (gRef g a j v) a j = some v := if_pos ⟨rfl, rfl⟩
theorem R_ne {g : GT} {a j v b i : Nat} (h : b ≠ a ∨ i ≠ j) : gR (gRef g a j v) b i = gR g b i := if_neg (fun z => h.elim (fun q => q z.1) (fun q => q z.2))
theorem R_add {g : GT} {q k n b i : Nat} {o t : Int} (h : b ≠ q) : gR (gAdd g q k n o t) b i = gR g b i := congrFun (if_neg h : gR (gAdd g q k n o t) b = gR g b) i
