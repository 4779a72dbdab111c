def agree (g : GT) (V V' : VT) : Prop := ∀ a ∈ gL g, (gK g a ≠ 5 → ∀ j, V (gO g a) (gT g a) j = V' (gO g a) (gT g a) j) ∧ (gK g a = 5 → ∀ k : Nat, k < gN g a → V (gO g a) (gT g a) k = V' (gO g a) (gT g a) k)
theorem agree_P {D : va_G} {cy : ClassId × ClassId} {g : GT} {V V' : VT} {H : Heap} (h : agree g V V') (hP : va_P D vwCl (pw cy g V) H) : va_P D vwCl (pw cy g V') H := by
  intro k q hk
  simp only [pw, va_pl, List.getElem?_map, Option.map_eq_some_iff] at hk
  obtain ⟨a, ha, rfl⟩ := hk
  have haL := List.mem_of_getElem? ha
  have h0 : va_at D vwCl (a, pF cy g V a) H := hP k (a, pF cy g V a) (by simp only [pw, va_pl, List.getElem?_map, ha, Option.map_some])
  obtain ⟨h1, h2⟩ := h a haL
  by_cases h5 : gK g a = 5
  · have e1 : pF cy g V a = .inl (cy.1, gN g a, .inl (fun k => iI (V (gO g a) (gT g a) k))) := by simp [pF, h5]
    have e2 : pF cy g V' a = .inl (cy.1, gN g a, .inl (fun k => iI (V' (gO g a) (gT g a) k))) := by simp [pF, h5]
    rw [e1] at h0
    rw [e2]
    have h3 : H[a]? = some (vp_cell cy.1 (gN g a, .inl (fun k => iI (V (gO g a) (gT g a) k)))) := h0
    show H[a]? = some (vp_cell cy.1 (gN g a, .inl (fun k => iI (V' (gO g a) (gT g a) k))))
    rw [h3]
    congr 1
    simp only [vp_cell, arrV]
    congr 1
    apply Array.ext
    · simp
    · intro i hi1 hi2
      simp only [Array.getElem_ofFn]
      rw [h2 h5 i (by simpa using hi1)]
  · have e : pF cy g V a = pF cy g V' a := by
      unfold pF
      simp only [h1 h5, if_neg h5]
    rw [← e]
    exact h0
def sett (V : VT) (o t : Int) (f : Int → Int) : VT := fun o' t' => if o' = o ∧ t' = t then f else V o' t'
section
variable {p : Program} {l : Launch} {e : Env} {R : Room} {s : State} {m : MethodId} {args : Array Value} {below : List Frame} {meth : Method} {c : Code} {cells slots nL : Nat} {Q : State → Prop}
variable {cc : ByteArray} {own : String} {ret : Option FieldType} {D : va_G} {cy : ClassId × ClassId} {g : GT} {A : Nat → Prop} {H0 : Heap} {V : VT} {pc : Nat} {lv : List (Nat × Value)} {st : List Value}
theorem g_agree {V' : VT} (h : agree g V V') (k : G p l e R s m args below meth c nL cells slots Q D cy g A H0 V' pc lv st) : G p l e R s m args below meth c nL cells slots Q D cy g A H0 V pc lv st :=
  fun H locs ls hP hS hl => k H locs ls (agree_P h hP) hS hl
theorem g_copyi (C : Cx p s m args meth c cc nL own ret D cy g A) {index a0 a n : Nat} {o0 t0 o t : Int} (h0 : isA g a0 o0 t0 n) (h1 : isA g a o t n) (hn : n < 2147483648) (hl1 : Cond.methodLink own index arraycopyName ∈ wsG) (hl2 : Cond.native arraycopyName ∈ wsG) (hl3 : Cond.static arraycopyName ∈ wsG) (hl4 : Cond.initialized "java/lang/System" ∈ wsG) (hfr : 1 ≤ R.frames) (hlo : (st.map fun v => v.category).sum + (nativeFrameWords "java/lang/System" "arraycopy" 5 + 11) ≤ R.locals) (hd : decode cc pc = .ok (.invokestatic index, 3))
    (kk : G p l e R s m args below meth c nL cells slots Q D cy g A H0 (sett V o t (V o0 t0)) (pc + 3) lv st) : G p l e R s m args below meth c nL cells slots Q D cy g A H0 V pc lv (vI n :: vI 0 :: .ref a :: vI 0 :: .ref a0 :: st) := by
  intro H locs ls hP hS hl
  obtain ⟨b1, b2, b3, b4, b5⟩ := id h0
  obtain ⟨d1, d2, d3, d4, d5⟩ := id h1
  have hrn : rng (n : Int) := ⟨by omega, by omega⟩
  have hcn : (iI (n : Int)).toNatClampNeg = n := by rw [iI_clamp (by omega) hrn]; simp
  have hc0 : (iI 0).toNatClampNeg = 0 := rfl
  obtain ⟨q0, hq0⟩ := pw_at (cy := cy) (V := V) b1
  obtain ⟨q1, hq1⟩ := pw_at (cy := cy) (V := V) d1
  have e0 : pF cy g V a0 = .inl (cy.1, n, .inl (fun k => iI (V o0 t0 k))) := by simp [pF, b2, b3, b4, b5]
  have e1 : pF cy g V a = .inl (cy.1, n, .inl (fun k => iI (V o t k))) := by simp [pF, d2, d3, d4, d5]
  have hset := va_pl_set (X := []) (A := A) (e := .inl (cy.1, n, .inl (va_cpy (fun k => iI (V o0 t0 k)) (fun k => iI (V o t k)) 0 0 n))) (by simpa using pw_D (cy := cy) (V := V) C.2.2.2.1 C.2.2.2.2.1) d1 (by simpa using hq1)
  rw [e0] at hq0
  rw [e1] at hq1
  refine va_copyi C.1.1 C.1.2.1 (C.1.2.2.1.trans hl.1.symm) C.1.2.2.2.1 (C.1.2.2.2.2 _ hl1) (C.1.2.2.2.2 _ hl2) (C.1.2.2.2.2 _ hl3) (C.1.2.2.2.2 _ hl4) C.2.1 hP (pw_D C.2.2.2.1 C.2.2.2.2.1) hS q0 q1 0 0 (ty := .int) hq0 hq1 rfl rfl rfl (by decide) (by decide) (fun h => by have := (iI_lt hrn rng0).mp h; omega) (by rw [hc0, hcn]; omega) (by rw [hc0, hcn]; omega) (fun _ _ => rfl) hfr hlo hd (fun H1 locs1 hP1 _ hS1 => ?_)
  rw [hc0, hcn] at hP1
  simp only [List.nil_append] at hset
  rw [hset] at hP1
  refine kk H1 locs1 ls ?_ hS1 hl
  -- the copied cells are those of sett
  intro k q hk
  simp only [pw, va_pl, List.getElem?_map, Option.map_eq_some_iff] at hk
  obtain ⟨b, hb, rfl⟩ := hk
  have hbL := List.mem_of_getElem? hb
  have h9 : va_at D vwCl (b, va_up (pF cy g V) a (.inl (cy.1, n, .inl (va_cpy (fun k => iI (V o0 t0 k)) (fun k => iI (V o t k)) 0 0 n))) b) H1 := hP1 k _ (by simp only [va_pl, List.getElem?_map, hb, Option.map_some])
  by_cases hba : b = a
  · subst hba
    rw [va_up_self] at h9
    have e2 : pF cy g (sett V o t (V o0 t0)) b = .inl (cy.1, n, .inl (fun k => iI (V o0 t0 k))) := by simp [pF, d2, d3, d4, d5, sett]
    rw [e2]
    have h3 : H1[b]? = some (vp_cell cy.1 (n, .inl (va_cpy (fun k => iI (V o0 t0 k)) (fun k => iI (V o t k)) 0 0 n))) := h9
    show H1[b]? = some (vp_cell cy.1 (n, .inl (fun k => iI (V o0 t0 k))))
    rw [h3]
    congr 1
    simp only [vp_cell, arrV]
    congr 1
    apply Array.ext
    · simp
    · intro i hi1 hi2
      have hi : i < n := by simpa using hi1
      simp only [Array.getElem_ofFn, va_cpy]
      rw [if_pos ⟨Nat.zero_le _, by omega⟩]
      simp
  · rw [va_up_ne _ _ hba] at h9
    have e3 : pF cy g (sett V o t (V o0 t0)) b = pF cy g V b := by
      have : ∀ j', sett V o t (V o0 t0) (gO g b) (gT g b) j' = V (gO g b) (gT g b) j' := by
        intro j'
        unfold sett
        rw [if_neg]
        rintro ⟨h1', h2'⟩
        exact hba (C.2.2.2.1.2 b hbL a d1 (h1'.trans d3.symm) (h2'.trans d4.symm))
      unfold pF
      simp only [this]
    rw [e3]
    exact h9
theorem g_mmin (C : Cx p s m args meth c cc nL own ret D cy g A) {index : Nat} {x y : Int} (hx : rng x) (hy : rng y) (hl1 : Cond.methodLink own index Lib.Math.min.name ∈ wsG) (hl2 : Cond.static Lib.Math.min.name ∈ wsG) (hl3 : Cond.initialized "java/lang/Math" ∈ wsG) (hl4 : Cond.code Lib.Math.min.name Lib.Math.min.code 2 (some .int) ∈ wsG) (hfr : 1 ≤ R.frames) (hlo : (st.map fun v => v.category).sum + 13 ≤ R.locals) (hcl : cells ≤ R.cells ∧ slots ≤ R.slots) (hd : decode cc pc = .ok (.invokestatic index, 3))
    (kk : G p l e R s m args below meth c nL cells slots Q D cy g A H0 V (pc + 3) lv (vI (if y < x then y else x) :: st)) : G p l e R s m args below meth c nL cells slots Q D cy g A H0 V pc lv (vI y :: vI x :: st) := by
  intro H locs ls hP hS hl
  refine va_mmin C.1.1 C.1.2.1 (C.1.2.2.1.trans hl.1.symm) C.1.2.2.2.1 (C.1.2.2.2.2 _ hl1) (C.1.2.2.2.2 _ hl2) (C.1.2.2.2.2 _ hl3) (C.1.2.2.2.2 _ hl4) hfr hlo hcl.1 hcl.2 hd ?_
  have e : (if iI y < iI x then iI y else iI x) = iI (if y < x then y else x) := by
    by_cases h : y < x
    · rw [if_pos h, if_pos ((iI_lt hy hx).mpr h)]
    · rw [if_neg h, if_neg (fun q => h ((iI_lt hy hx).mp q))]
  rw [e]
  exact kk H locs ls hP hS hl
theorem g_mmax (C : Cx p s m args meth c cc nL own ret D cy g A) {index : Nat} {x y : Int} (hx : rng x) (hy : rng y) (hl1 : Cond.methodLink own index Lib.Math.max.name ∈ wsG) (hl2 : Cond.static Lib.Math.max.name ∈ wsG) (hl3 : Cond.initialized "java/lang/Math" ∈ wsG) (hl4 : Cond.code Lib.Math.max.name Lib.Math.max.code 2 (some .int) ∈ wsG) (hfr : 1 ≤ R.frames) (hlo : (st.map fun v => v.category).sum + 13 ≤ R.locals) (hcl : cells ≤ R.cells ∧ slots ≤ R.slots) (hd : decode cc pc = .ok (.invokestatic index, 3))
    (kk : G p l e R s m args below meth c nL cells slots Q D cy g A H0 V (pc + 3) lv (vI (if x < y then y else x) :: st)) : G p l e R s m args below meth c nL cells slots Q D cy g A H0 V pc lv (vI y :: vI x :: st) := by
  intro H locs ls hP hS hl
  refine va_mmax C.1.1 C.1.2.1 (C.1.2.2.1.trans hl.1.symm) C.1.2.2.2.1 (C.1.2.2.2.2 _ hl1) (C.1.2.2.2.2 _ hl2) (C.1.2.2.2.2 _ hl3) (C.1.2.2.2.2 _ hl4) hfr hlo hcl.1 hcl.2 hd ?_
  have e : (if iI x < iI y then iI y else iI x) = iI (if x < y then y else x) := by
    by_cases h : x < y
    · rw [if_pos h, if_pos ((iI_lt hx hy).mpr h)]
    · rw [if_neg h, if_neg (fun q => h ((iI_lt hx hy).mp q))]
  rw [e]
  exact kk H locs ls hP hS hl
end
set_option maxRecDepth 20000 in
theorem lsys1 : Cond.methodLink RX1 52 arraycopyName ∈ wsG := wsG_of 225 rfl rfl
set_option maxRecDepth 20000 in
theorem lsys2 : Cond.static arraycopyName ∈ wsG := wsG_of 226 rfl rfl
set_option maxRecDepth 20000 in
theorem lsys3 : Cond.native arraycopyName ∈ wsG := wsG_of 227 rfl rfl
set_option maxRecDepth 20000 in
theorem lsys4 : Cond.initialized "java/lang/System" ∈ wsG := wsG_of 54 rfl rfl
set_option maxRecDepth 20000 in
theorem lmin1 : Cond.methodLink RX2 116 Lib.Math.min.name ∈ wsG := wsG_of 329 rfl rfl
set_option maxRecDepth 20000 in
theorem lmin2 : Cond.static Lib.Math.min.name ∈ wsG := wsG_of 330 rfl rfl
set_option maxRecDepth 20000 in
theorem lmin4 : Cond.code Lib.Math.min.name Lib.Math.min.code 2 (some .int) ∈ wsG := wsG_of 331 rfl rfl
set_option maxRecDepth 20000 in
theorem lmax1 : Cond.methodLink RX3 80 Lib.Math.max.name ∈ wsG := wsG_of 197 rfl rfl
set_option maxRecDepth 20000 in
theorem lmax2 : Cond.static Lib.Math.max.name ∈ wsG := wsG_of 198 rfl rfl
set_option maxRecDepth 20000 in
theorem lmax4 : Cond.code Lib.Math.max.name Lib.Math.max.code 2 (some .int) ∈ wsG := wsG_of 199 rfl rfl
set_option maxRecDepth 20000 in
theorem lmth : Cond.initialized "java/lang/Math" ∈ wsG := wsG_of 53 rfl rfl
