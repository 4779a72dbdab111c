/-! words: all good words of the tables; nest words beside them -/
def wsG : List Cond := lw_tbl.filter goodWord
theorem wsG_of {w : Cond} (i : Nat) (h : lw_tbl[i]? = some w) (hg : goodWord w = true) : w ∈ wsG := List.mem_filter.mpr ⟨List.mem_of_getElem? h, hg⟩
theorem wsG_good {w : Cond} (h : w ∈ wsG) : (w.onTables && w.keeps) = true ∨ ∃ ty, w = .arrayClass ty := good_of_word (List.mem_filter.mp h).2
theorem wsG_GoodIn {x : Cond} {ws : List Cond} (h : ∀ w ∈ ws, w ∈ wsG) : GoodIn (x :: wsG) ws := fun w hw => ⟨List.mem_cons_of_mem _ (h w hw), wsG_good (h w hw)⟩
/-! numbers -/
def iI (x : Int) : Int32 := Int32.ofInt x
def vI (x : Int) : Value := .int (iI x)
def rng (x : Int) : Prop := -2147483648 ≤ x ∧ x < 2147483648
theorem iI_toInt {x : Int} (h : rng x) : (iI x).toInt = x := by
  unfold iI
  rw [Int32.toInt_ofInt, show Int32.size = 4294967296 from rfl]
  unfold rng at h
  exact Int.bmod_eq_of_le (by omega) (by omega)
theorem iI_of (v : Int32) : v = iI v.toInt := by
  unfold iI
  exact (Int32.ofInt_toInt v).symm
theorem rng_of (v : Int32) : rng v.toInt := ⟨by have := Int32.le_toInt v; omega, by have := Int32.toInt_lt v; omega⟩
theorem iI_add (x y : Int) : iI x + iI y = iI (x + y) := by unfold iI; rw [Int32.ofInt_add]
theorem iI_sub (x y : Int) : iI x - iI y = iI (x - y) := by unfold iI; rw [Int32.ofInt_sub]
theorem iI_mul (x y : Int) : iI x * iI y = iI (x * y) := by unfold iI; rw [Int32.ofInt_mul]
theorem iI_lt {x y : Int} (hx : rng x) (hy : rng y) : iI x < iI y ↔ x < y := by rw [Int32.lt_iff_toInt_lt, iI_toInt hx, iI_toInt hy]
theorem iI_le {x y : Int} (hx : rng x) (hy : rng y) : iI x ≤ iI y ↔ x ≤ y := by rw [Int32.le_iff_toInt_le, iI_toInt hx, iI_toInt hy]
theorem iI_eq {x y : Int} (hx : rng x) (hy : rng y) : iI x = iI y ↔ x = y := ⟨fun h => by have := congrArg Int32.toInt h; rwa [iI_toInt hx, iI_toInt hy] at this, fun h => by rw [h]⟩
theorem rng0 : rng 0 := ⟨by decide, by decide⟩
theorem iI_0 : iI 0 = 0 := rfl
theorem iI_div {x y : Int} (hx : rng x) (hy : rng y) (h0 : 0 ≤ x) (h1 : 0 < y) : iI x / iI y = iI (x / y) := by
  apply Int32.toInt_inj.mp
  have hd : 0 ≤ x / y := Int.ediv_nonneg h0 (by omega)
  have hd2 : x / y ≤ x := Int.ediv_le_self y h0
  rw [Int32.toInt_div, iI_toInt hx, iI_toInt hy, iI_toInt (by unfold rng at *; omega), Int.tdiv_eq_ediv_of_nonneg h0]
  unfold rng at *
  exact Int.bmod_eq_of_le (by omega) (by omega)
theorem iI_clamp {i : Int} (hi : 0 ≤ i) (h : rng i) : (iI i).toNatClampNeg = i.toNat := by
  unfold Int32.toNatClampNeg
  rw [iI_toInt h]
theorem iI_in {i : Int} {n : Nat} (h0 : 0 ≤ i) (h1 : i < n) (h : rng i) : vp_in (iI i) n := vp_in_iff.mpr (by rw [iI_toInt h]; exact ⟨h0, h1⟩)
/-! the pool -/
abbrev VT : Type := Int → Int → Int → Int
abbrev GT : Type := List Nat × (Nat → Nat) × (Nat → Nat → Option Nat) × (Nat → Nat) × (Nat → Int) × (Nat → Int)
abbrev gL (g : GT) : List Nat := g.1
abbrev gK (g : GT) : Nat → Nat := g.2.1
abbrev gR (g : GT) : Nat → Nat → Option Nat := g.2.2.1
abbrev gN (g : GT) : Nat → Nat := g.2.2.2.1
abbrev gO (g : GT) : Nat → Int := g.2.2.2.2.1
abbrev gT (g : GT) : Nat → Int := g.2.2.2.2.2
/-- what the cell at an address is -/
def pF (cy : ClassId × ClassId) (g : GT) (V : VT) (a : Nat) : va_E :=
  if gK g a = 0 then .inr (0, [va_rf (gR g a 0), va_rf (gR g a 1), va_rf (gR g a 2), vI (V (gO g a) (gT g a) 3)])
  else if gK g a = 1 then .inr (1, [vI (V (gO g a) (gT g a) 0), vI (V (gO g a) (gT g a) 1), vI (V (gO g a) (gT g a) 2), vI (V (gO g a) (gT g a) 3), vI (V (gO g a) (gT g a) 4), vI (V (gO g a) (gT g a) 5), vI (V (gO g a) (gT g a) 6), vI (V (gO g a) (gT g a) 7), vI (V (gO g a) (gT g a) 8), va_rf (gR g a 9), va_rf (gR g a 10), va_rf (gR g a 11), va_rf (gR g a 12)])
  else if gK g a = 2 then .inr (2, [va_rf (gR g a 0)])
  else if gK g a = 3 then .inr (3, [va_rf (gR g a 0), va_rf (gR g a 1), va_rf (gR g a 2), vI (V (gO g a) (gT g a) 3)])
  else if gK g a = 4 then .inr (4, [va_rf (gR g a 0), va_rf (gR g a 1), va_rf (gR g a 2), vI (V (gO g a) (gT g a) 3), vI (V (gO g a) (gT g a) 4), vI (V (gO g a) (gT g a) 5), vI (V (gO g a) (gT g a) 6), vI (V (gO g a) (gT g a) 7)])
  else if gK g a = 5 then .inl (cy.1, gN g a, .inl (fun k => iI (V (gO g a) (gT g a) k)))
  else .inl (cy.2, gN g a, .inr (.inr (.inr (.inr (gR g a)))))
def up (V : VT) (o t j v : Int) : VT := fun o' t' j' => if o' = o ∧ t' = t ∧ j' = j then v else V o' t' j'
theorem up_at (V : VT) (o t j v : Int) : up V o t j v o t j = v := by simp [up]
theorem up_j {V : VT} {o t j v o' t' j' : Int} (h : j' ≠ j) : up V o t j v o' t' j' = V o' t' j' := by simp [up, h]
theorem up_t {V : VT} {o t j v o' t' j' : Int} (h : t' ≠ t) : up V o t j v o' t' j' = V o' t' j' := by simp [up, h]
theorem up_o {V : VT} {o t j v o' t' j' : Int} (h : o' ≠ o) : up V o t j v o' t' j' = V o' t' j' := by simp [up, h]
def Apart (g : GT) : Prop := (gL g).Nodup ∧ ∀ a ∈ gL g, ∀ b ∈ gL g, gO g a = gO g b → gT g a = gT g b → a = b
abbrev pw (cy : ClassId × ClassId) (g : GT) (V : VT) : va_W := va_pl (gL g) (pF cy g V)
theorem pw_at {cy : ClassId × ClassId} {g : GT} {V : VT} {a : Nat} (h : a ∈ gL g) : ∃ k : Nat, (pw cy g V)[k]? = some (a, pF cy g V a) := by
  have := va_pl_get (X := []) (f := pF cy g V) h
  simpa using this
theorem pw_D {cy : ClassId × ClassId} {g : GT} {V : VT} {A : Nat → Prop} (hA : Apart g) (h : ∀ q ∈ gL g, A q) : va_D A (pw cy g V) := by
  refine ⟨fun i j x y hi hj hxy => ?_, fun k q hk => ?_⟩
  · simp only [pw, va_pl, List.getElem?_map, Option.map_eq_some_iff] at hi hj
    obtain ⟨a, ha, rfl⟩ := hi
    obtain ⟨b, hb, rfl⟩ := hj
    have hab : a = b := hxy
    subst hab
    obtain ⟨h1, h2⟩ := List.getElem?_eq_some_iff.mp ha
    obtain ⟨h3, h4⟩ := List.getElem?_eq_some_iff.mp hb
    exact (List.getElem_inj hA.1).mp (h2.trans h4.symm)
  · simp only [pw, va_pl, List.getElem?_map, Option.map_eq_some_iff] at hk
    obtain ⟨a, ha, rfl⟩ := hk
    exact h a (List.mem_of_getElem? ha)
theorem pF_other {cy : ClassId × ClassId} {g : GT} {V : VT} {a b : Nat} {j v : Int} (hA : Apart g) (ha : a ∈ gL g) (hb : b ∈ gL g) (hne : b ≠ a) : pF cy g (up V (gO g a) (gT g a) j v) b = pF cy g V b := by
  have : ∀ j', up V (gO g a) (gT g a) j v (gO g b) (gT g b) j' = V (gO g b) (gT g b) j' := by
    intro j'
    unfold up
    rw [if_neg]
    rintro ⟨h1, h2, -⟩
    exact hne (hA.2 b hb a ha h1 h2)
  unfold pF
  simp only [this]
theorem pw_set {cy : ClassId × ClassId} {g : GT} {V : VT} {A : Nat → Prop} {a k : Nat} {j v : Int} {e : va_E} (hA : Apart g) (hq : ∀ q ∈ gL g, A q) (ha : a ∈ gL g) (hk : (pw cy g V)[k]? = some (a, pF cy g V a)) (he : pF cy g (up V (gO g a) (gT g a) j v) a = e) : (pw cy g V).set k (a, e) = pw cy g (up V (gO g a) (gT g a) j v) := by
  have hD : va_D A ([] ++ pw cy g V) := pw_D hA hq
  have h1 := va_pl_set (X := []) (e := e) hD ha (by simpa using hk)
  simp only [List.nil_append] at h1
  rw [h1]
  unfold va_pl
  apply List.map_congr_left
  intro b hb
  by_cases hba : b = a
  · subst hba
    rw [va_up_self, he]
  · rw [va_up_ne _ _ hba, pF_other hA ha hb hba]
/-! the context of a method's walk, and its goal -/
abbrev tyc (cy : ClassId × ClassId) : List (ClassId × FieldType) := [(cy.1, .int), (cy.2, .object RX1)]
def rmd (d : Nat) : Room := { frames := d, cells := 0, slots := 0, locals := 33 * d }
def nestL : List Cond := [.methodLinkNest "SlotFile$Store" 17 ⟨"SlotFile$Page", "<init>", "()V"⟩ "SlotFile", .fieldLinkNest "SlotFile" 95 "SlotFile$Page" "kind" "I" "SlotFile", .fieldLinkNest "SlotFile$Store" 106 "SlotFile$Page" "kind" "I" "SlotFile", .fieldLinkNest "SlotFile" 100 "SlotFile$Page" "slots" "I" "SlotFile", .fieldLinkNest "SlotFile" 103 "SlotFile$Page" "cells" "I" "SlotFile", .fieldLinkNest "SlotFile$Store" 130 "SlotFile$Page" "cells" "I" "SlotFile", .fieldLinkNest "SlotFile" 113 "SlotFile$Page" "stubs" "I" "SlotFile", .fieldLinkNest "SlotFile$Store" 133 "SlotFile$Page" "stubs" "I" "SlotFile", .fieldLinkNest "SlotFile" 110 "SlotFile$Page" "end" "I" "SlotFile", .fieldLinkNest "SlotFile" 116 "SlotFile$Page" "chainNext" "I" "SlotFile", .fieldLinkNest "SlotFile$Store" 124 "SlotFile$Page" "chainNext" "I" "SlotFile", .fieldLinkNest "SlotFile" 119 "SlotFile$Page" "chainBytes" "I" "SlotFile", .fieldLinkNest "SlotFile$Store" 136 "SlotFile$Page" "compactings" "I" "SlotFile", .fieldLinkNest "SlotFile$Store" 30 "SlotFile$Page" "kinds" "[I" "SlotFile", .fieldLinkNest "SlotFile" 126 "SlotFile$Page" "kinds" "[I" "SlotFile", .fieldLinkNest "SlotFile$Store" 40 "SlotFile$Page" "lengths" "[I" "SlotFile", .fieldLinkNest "SlotFile$Store" 43 "SlotFile$Page" "seeds" "[I" "SlotFile", .fieldLinkNest "SlotFile$Store" 34 "SlotFile$Page" "links" "[I" "SlotFile", .fieldLinkNest "SlotFile" 91 "SlotFile$Store" "pages" "[LSlotFile$Page;" "SlotFile", .methodLinkNest "SlotFile" 21 ⟨"SlotFile$Log", "<init>", "()V"⟩ "SlotFile", .fieldLinkNest "SlotFile" 130 "SlotFile$Log" "size" "I" "SlotFile", .methodLinkNest "SlotFile$Store" 110 ⟨"SlotFile", "chainPages", "(I)I"⟩ "SlotFile", .methodLinkNest "SlotFile$Store" 52 ⟨"SlotFile", "cellBytes", "(II)I"⟩ "SlotFile", .methodLinkNest "SlotFile$Page" 73 ⟨"SlotFile", "cellBytes", "(II)I"⟩ "SlotFile"]
def NW (U : State) : Prop := ∀ w ∈ nestL, va_Nw w U
