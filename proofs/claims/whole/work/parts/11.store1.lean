/-! SlotFile$Store at base b: page i is the object b + i -/
def isSt (g : GT) (a : Nat) (b : Int) : Prop := (∃ ob, isO g 2 a ob) ∧ ∃ ps, gR g a 0 = some ps ∧ isQ g ps 96 ∧ ∀ i : Int, 0 ≤ i → i < 96 → ∃ pg, gR g ps i.toNat = some pg ∧ isPg g pg (b + i)
def swf (V : VT) (b : Int) : Prop := ∀ i, 0 ≤ i → i < 96 → pwf (V (b + i))
def cntK (K : Int → Int) (k : Int) : Nat → Int
  | 0 => 0
  | n + 1 => if K n = k then cntK K k n + 1 else cntK K k n
def sumF (F : Int → Int) : Nat → Int
  | 0 => 0
  | n + 1 => sumF F n + F n
theorem cntK_bd (K : Int → Int) (k : Int) (n : Nat) : 0 ≤ cntK K k n ∧ cntK K k n ≤ n := by
  induction n with
  | zero => exact ⟨Int.le_refl _, Int.le_refl _⟩
  | succ n ih => unfold cntK; split <;> omega
abbrev kd (V : VT) (b : Int) : Int → Int := fun i => V (b + i) 0 0
/-- the least free page from a number on -/
def isLF (K : Int → Int) (f r : Int) : Prop := (r = -1 ∧ ∀ i, f ≤ i → i < 96 → K i ≠ 0) ∨ (f ≤ r ∧ r < 96 ∧ K r = 0 ∧ ∀ i, f ≤ i → i < r → K i ≠ 0)
/-- a page that takes a new cell of n bytes (slot told with), but for two -/
def okp (V : VT) (b x y i : Int) : Prop := i ≠ x ∧ i ≠ y ∧ V (b + i) 0 0 = 1 ∧ V (b + i) 0 2 < 32
def isFR (V : VT) (b n x y r : Int) : Prop := (r = -1 ∧ ∀ i, 0 ≤ i → i < 96 → okp V b x y i → pRoom (V (b + i)) < n) ∨ (0 ≤ r ∧ r < 96 ∧ okp V b x y r ∧ n ≤ pRoom (V (b + r)) ∧ ∀ i, 0 ≤ i → i < r → okp V b x y i → pRoom (V (b + i)) < n)
abbrev pCls (w : Int → Int → Int) : Int := pRoom w / 31
def isLC (V : VT) (b n x y : Int) (m : Int) (r c : Int) : Prop := (r = -1 ∧ c = 9 ∧ ∀ i, 0 ≤ i → i < m → okp V b x y i → pCls (V (b + i)) * 31 < n) ∨ (0 ≤ r ∧ r < m ∧ okp V b x y r ∧ c = pCls (V (b + r)) ∧ n ≤ c * 31 ∧ (∀ i, 0 ≤ i → i < m → okp V b x y i → n ≤ pCls (V (b + i)) * 31 → c ≤ pCls (V (b + i))) ∧ ∀ i, 0 ≤ i → i < r → okp V b x y i → n ≤ pCls (V (b + i)) * 31 → c < pCls (V (b + i)))
def isPl (V : VT) (b n x y r : Int) : Prop := (∃ c, r ≠ -1 ∧ isLC V b n x y 96 r c) ∨ ((∃ c, isLC V b n x y 96 (-1) c) ∧ ((r ≠ -1 ∧ isFR V b n x y r) ∨ (isFR V b n x y (-1) ∧ isLF (kd V b) 0 r)))
def chP (n : Int) : Int := if 100 < n then (n + 239) / 240 else 0
theorem chP_bd {n : Int} (h : 0 ≤ n ∧ n ≤ 1200) : 0 ≤ chP n ∧ chP n ≤ 5 := by unfold chP; split <;> omega
/-- a chain: the pages from f on by the nexts N -/
def isCh (N : Int → Int) : List Int → Int → Prop
  | [], f => f = -1
  | p :: L, f => f = p ∧ (0 ≤ p ∧ p < 96) ∧ isCh N L (N p)
def freeL (V : VT) (b : Int) : List Int → VT
  | [] => V
  | p :: L => freeL (setp V (b + p) (pFree (V (b + p)))) b L
abbrev nx (V : VT) (b : Int) : Int → Int := fun i => V (b + i) 0 6
def vcel (V : VT) (b r : Int) : Int := if V (b + r / 32) 1 (r % 32) = 2 then V (b + r / 32) 4 (r % 32) else r
def isRec (V : VT) (b r : Int) : Prop := pHome (V (b + r / 32)) (r % 32)
theorem cv_X1_room (l : Launch) (D : va_G) (cy : ClassId × ClassId) (g : GT) (V : VT) (a : Nat) (o : Int)  (hap : Apart g) (hp : isPg g a o)  : MetI l yX1_room cX1_room 1 (some .int) 0 D cy g [.ref a] V (fun r V' => r = pRoom (V o) ∧ V' = V) := by
  have h := c_X1_room l D cy g V (V o) a o  hap hp 
  rw [setp_self] at h
  exact h
theorem cv_X1_takesNewCells (l : Launch) (D : va_G) (cy : ClassId × ClassId) (g : GT) (V : VT) (a : Nat) (o : Int)  (hap : Apart g) (hp : isPg g a o) (hw : pwf (V o)) : MetI l yX1_takesNewCells cX1_takesNewCells 1 (some .boolean) 0 D cy g [.ref a] V (fun r V' => r = (if V o 0 0 = 1 ∧ V o 0 2 < 32 then 1 else 0) ∧ V' = V) := by
  have h := c_X1_takesNewCells l D cy g V (V o) a o  hap hp hw
  rw [setp_self] at h
  exact h
theorem cv_X1_hasHome (l : Launch) (D : va_G) (cy : ClassId × ClassId) (g : GT) (V : VT) (a : Nat) (o : Int) (s : Int) (hap : Apart g) (hp : isPg g a o) (hs : 0 ≤ s ∧ s < 32) (hw : pwf (V o)) : MetI l yX1_hasHome cX1_hasHome 2 (some .boolean) 0 D cy g [.ref a, vI s] V (fun r V' => r = (if V o 1 s = 1 ∨ V o 1 s = 2 then 1 else 0) ∧ V' = V) := by
  have h := c_X1_hasHome l D cy g V (V o) a o s hap hp hs hw
  rw [setp_self] at h
  exact h
theorem cv_X1_hasRoomInstead (l : Launch) (D : va_G) (cy : ClassId × ClassId) (g : GT) (V : VT) (a : Nat) (o : Int) (s q : Int) (hap : Apart g) (hp : isPg g a o) (hs : 0 ≤ s ∧ s < 32) (hw : pwf (V o)) (hb : sm q) : MetI l yX1_hasRoomInstead cX1_hasRoomInstead 3 (some .boolean) 2 D cy g [.ref a, vI s, vI q] V (fun r V' => r = (if q ≤ pRoom (V o) + pBytes (V o) s then 1 else 0) ∧ V' = V) := by
  have h := c_X1_hasRoomInstead l D cy g V (V o) a o s q hap hp hs hw hb
  rw [setp_self] at h
  exact h
theorem cv_X1_firstHomeFrom (l : Launch) (D : va_G) (cy : ClassId × ClassId) (g : GT) (V : VT) (a : Nat) (o : Int) (s : Int) (hap : Apart g) (hp : isPg g a o) (hs : 0 ≤ s ∧ s < 1000) (hw : pwf (V o)) : MetI l yX1_firstHomeFrom cX1_firstHomeFrom 3 (some .int) 1 D cy g [.ref a, vI s] V (fun r V' => V' = V ∧ ((r = -1 ∧ ∀ j, s ≤ j → j < V o 0 1 → ¬ pHome (V o) j) ∨ (s ≤ r ∧ r < V o 0 1 ∧ pHome (V o) r ∧ ∀ j, s ≤ j → j < r → ¬ pHome (V o) j))) := by
  have h := c_X1_firstHomeFrom l D cy g V (V o) a o s hap hp hs hw
  rw [setp_self] at h
  exact h
theorem cv_X1_put (l : Launch) (D : va_G) (cy : ClassId × ClassId) (g : GT) (V : VT) (a : Nat) (o : Int) (k n sd lk : Int) (hap : Apart g) (hp : isPg g a o) (hw : pwf (V o)) (hk : 0 ≤ k ∧ k ≤ 3) (hn : -1 ≤ n ∧ n ≤ 1200) (hf : ∀ r, pEmpty (V o) r → r < 32) : MetI l yX1_put cX1_put 7 (some .int) 2 D cy g [.ref a, vI k, vI n, vI sd, vI lk] V (fun r V' => pEmpty (V o) r ∧ V' = setp V o (pPut (V o) r k n sd lk)) := by
  have h := c_X1_put l D cy g V (V o) a o k n sd lk hap hp hw hk hn hf
  rw [setp_self] at h
  exact h
theorem cv_X1_change (l : Launch) (D : va_G) (cy : ClassId × ClassId) (g : GT) (V : VT) (a : Nat) (o : Int) (s k n sd lk : Int) (hap : Apart g) (hp : isPg g a o) (hw : pwf (V o)) (hwe : pwf (pErase (V o) s)) (hs : 0 ≤ s ∧ s < 32) (hk : 0 ≤ k ∧ k ≤ 3) (hn : -1 ≤ n ∧ n ≤ 1200) : MetV l yX1_change cX1_change 8 none 2 D cy g [.ref a, vI s, vI k, vI n, vI sd, vI lk] V (fun V' => V' = setp V o (pChange (V o) s k n sd lk)) := by
  have h := c_X1_change l D cy g V (V o) a o s k n sd lk hap hp hw hwe hs hk hn
  rw [setp_self] at h
  exact h
theorem cv_X1_remove (l : Launch) (D : va_G) (cy : ClassId × ClassId) (g : GT) (V : VT) (a : Nat) (o : Int) (s : Int) (hap : Apart g) (hp : isPg g a o) (hw : pwf (V o)) (hs : 0 ≤ s ∧ s < 32) : MetV l yX1_remove cX1_remove 2 none 2 D cy g [.ref a, vI s] V (fun V' => ∃ n9, ((0 ≤ n9 ∧ n9 ≤ V o 0 1) ∧ (∀ i, n9 ≤ i → i < V o 0 1 → pErase (V o) s 1 i = 0) ∧ (0 < n9 → pErase (V o) s 1 (n9 - 1) ≠ 0)) ∧ V' = setp V o (pRem (V o) s n9)) := by
  have h := c_X1_remove l D cy g V (V o) a o s hap hp hw hs
  rw [setp_self] at h
  exact h
theorem cv_X1_becomeFree (l : Launch) (D : va_G) (cy : ClassId × ClassId) (g : GT) (V : VT) (a : Nat) (o : Int)  (hap : Apart g) (hp : isPg g a o)  : MetV l yX1_becomeFree cX1_becomeFree 1 none 0 D cy g [.ref a] V (fun V' => V' = setp V o (pFree (V o))) := by
  have h := c_X1_becomeFree l D cy g V (V o) a o  hap hp 
  rw [setp_self] at h
  exact h
theorem cv_X1_becomeChain (l : Launch) (D : va_G) (cy : ClassId × ClassId) (g : GT) (V : VT) (a : Nat) (o : Int) (q : Int) (hap : Apart g) (hp : isPg g a o)  : MetV l yX1_becomeChain cX1_becomeChain 2 none 0 D cy g [.ref a, vI q] V (fun V' => V' = setp V o (pChain (V o) q)) := by
  have h := c_X1_becomeChain l D cy g V (V o) a o q hap hp 
  rw [setp_self] at h
  exact h
set_option maxHeartbeats 4000000 in
set_option maxRecDepth 100000 in
theorem c_X3_chainPages (l : Launch) (D : va_G) (cy : ClassId × ClassId) (g : GT) (V : VT) (n : Int) (hap : Apart g) (hn : 0 ≤ n ∧ n ≤ 1200) : MetI l yX3_chainPages cX3_chainPages 1 (some .int) 0 D cy g [vI n] V (fun r V' => r = chP n ∧ V' = V) := by
  refine MetI.of (by decide) (Nat.le_of_ble_eq_true rfl) hap ?_
  intro p_ e_ s_ m_ args_ below_ meth_ c_ C
  refine g_iload_n C 0 rfl dX3_chainPages_0 ?_
  refine g_bipush C 100 rfl dX3_chainPages_1 ?_
  refine g_icmp_le C (by unfold rng; omega) (by unfold rng; omega) 20 dX3_chainPages_3 (by decide) (fun c3 => ?_) (fun c3 => ?_)
  · refine g_iconst C 0 rfl dX3_chainPages_20 ?_
    refine g_iret C dX3_chainPages_21 ⟨?_, rfl⟩
    unfold chP
    first | rw [if_pos (by omega)]; omega | rw [if_neg (by omega)]
  · refine g_iload_n C 0 rfl dX3_chainPages_6 ?_
    refine g_sipush C 240 rfl dX3_chainPages_7 ?_
    refine g_iadd C dX3_chainPages_10 ?_
    refine g_iconst C 1 rfl dX3_chainPages_11 ?_
    refine g_isub C dX3_chainPages_12 ?_
    refine g_sipush C 240 rfl dX3_chainPages_13 ?_
    refine g_idiv C (by omega) (by omega) dX3_chainPages_16 ?_
    refine g_goto C 21 dX3_chainPages_17 (by decide) ?_
    refine g_iret C dX3_chainPages_21 ⟨?_, rfl⟩
    unfold chP
    first | rw [if_pos (by omega)]; omega | rw [if_neg (by omega)]
set_option maxHeartbeats 4000000 in
set_option maxRecDepth 100000 in
theorem c_X2_pagesThatAre (l : Launch) (D : va_G) (cy : ClassId × ClassId) (g : GT) (V : VT) (a : Nat) (b : Int) (q : Int) (hap : Apart g) (hS : isSt g a b) (hw : swf V b) (hq9 : sm q) : MetI l yX2_pagesThatAre cX2_pagesThatAre 4 (some .int) 0 D cy g [.ref a, vI q] V (fun r V' => r = cntK (kd V b) q 96 ∧ V' = V) := by
  obtain ⟨⟨ob, hob⟩, ps, hps, hq, hpgs⟩ := id hS
  simp only [sm] at hq9
  refine MetI.of (by decide) (Nat.le_of_ble_eq_true rfl) hap ?_
  intro p_ e_ s_ m_ args_ below_ meth_ c_ C
  have loop : ∀ (n : Nat) (k : Nat), k + n = 96 → G p_ l e_ (rmd 0) s_ m_ args_ below_ meth_ c_ 4 0 0 (MQ below_ (QcI D cy g (fun r V' => r = cntK (kd V b) q 96 ∧ V' = V)) args_ s_ 0 0 (fun q => q ∈ gL g)) D cy g (fun q => q ∈ gL g) s_.heap V 4 [(3, vI ((k : Int))), (2, vI (cntK (kd V b) q k)), (0, .ref a), (1, vI q)] [] := by
    intro n
    induction n with
    | zero =>
      intro k hkn
      have hk : k = 96 := by omega
      subst hk
      refine g_iload_n C 0 rfl dX2_pagesThatAre_4 ?_
      refine g_bipush C 96 rfl dX2_pagesThatAre_5 ?_
      refine g_icmp_ge C (by unfold rng; omega) (by unfold rng; omega) 32 dX2_pagesThatAre_7 (by decide) (fun c7 => ?_) (fun c7 => absurd c7 (by omega))
      refine g_iload_n C 1 rfl dX2_pagesThatAre_32 ?_
      exact g_iret C dX2_pagesThatAre_33 ⟨rfl, rfl⟩
    | succ n ih =>
      intro k hkn
      refine g_iload_n C 0 rfl dX2_pagesThatAre_4 ?_
      refine g_bipush C 96 rfl dX2_pagesThatAre_5 ?_
      refine g_icmp_ge C (by unfold rng; omega) (by unfold rng; omega) 32 dX2_pagesThatAre_7 (by decide) (fun c7 => absurd c7 (by omega)) (fun c7 => ?_)
      refine g_aload_n C 2 rfl dX2_pagesThatAre_10 ?_
      refine gf_Store_pages C hob hps lf_X2_11 dX2_pagesThatAre_11 ?_
      refine g_iload_n C 0 rfl dX2_pagesThatAre_14 ?_
      obtain ⟨pg1, pg1e, pg1h⟩ := hpgs ((k : Int)) (by omega) (by omega)
      obtain ⟨-, pg1r1, pg1r2, pg1r3, pg1r4, ⟨pg1hr1, pg1ha1⟩, ⟨pg1hr2, pg1ha2⟩, ⟨pg1hr3, pg1ha3⟩, ⟨pg1hr4, pg1ha4⟩⟩ := id pg1h
      refine g_aald C hq ⟨by omega, by omega⟩ (by decide) pg1e dX2_pagesThatAre_15 ?_
      refine gfN_Page_kind C pg1h.1 lf_X2_106 dX2_pagesThatAre_16 ?_
      refine g_iload_n C 3 rfl dX2_pagesThatAre_19 ?_
      refine g_icmp_ne C (by have := (hw k (by omega) (by omega)).1; unfold rng; unfold sm at this; omega) (by unfold rng; omega) 26 dX2_pagesThatAre_20 (by decide) (fun c20 => ?_) (fun c20 => ?_)
      · refine g_iinc C [(3, vI (((k : Int)) + 1)), (2, vI (cntK (kd V b) q k)), (0, .ref a), (1, vI q)] 0 rfl dX2_pagesThatAre_26 (by decide) rfl ?_
        refine g_goto C 4 dX2_pagesThatAre_29 (by decide) ?_
        refine g_sub [0, 1, 2, 3] rfl ?_
        have e1 : cntK (kd V b) q (k + 1) = cntK (kd V b) q k := if_neg c20
        have h9 := ih (k + 1) (by omega)
        rw [e1] at h9
        exact h9
      · refine g_iinc C [(2, vI ((cntK (kd V b) q k) + 1)), (3, vI ((k : Int))), (0, .ref a), (1, vI q)] 1 rfl dX2_pagesThatAre_23 (by decide) rfl ?_
        refine g_iinc C [(3, vI (((k : Int)) + 1)), (2, vI ((cntK (kd V b) q k) + 1)), (0, .ref a), (1, vI q)] 1 rfl dX2_pagesThatAre_26 (by decide) rfl ?_
        refine g_goto C 4 dX2_pagesThatAre_29 (by decide) ?_
        refine g_sub [0, 1, 2, 3] rfl ?_
        have e1 : cntK (kd V b) q (k + 1) = cntK (kd V b) q k + 1 := if_pos c20
        have h9 := ih (k + 1) (by omega)
        rw [e1] at h9
        exact h9
  refine g_iconst C 0 rfl dX2_pagesThatAre_0 ?_
  refine g_istore_n C [(2, vI 0), (0, .ref a), (1, vI q)] dX2_pagesThatAre_1 rfl (by decide) rfl ?_
  refine g_iconst C 0 rfl dX2_pagesThatAre_2 ?_
  refine g_istore_n C [(3, vI 0), (2, vI 0), (0, .ref a), (1, vI q)] dX2_pagesThatAre_3 rfl (by decide) rfl ?_
  refine g_sub [0, 1, 2, 3] rfl ?_
  exact loop 96 0 (by omega)
set_option maxHeartbeats 4000000 in
set_option maxRecDepth 100000 in
theorem c_X2_cellCount (l : Launch) (D : va_G) (cy : ClassId × ClassId) (g : GT) (V : VT) (a : Nat) (b : Int) (hap : Apart g) (hS : isSt g a b) : MetI l yX2_cellCount cX2_cellCount 3 (some .int) 0 D cy g [.ref a] V (fun r V' => r = sumF (fun i => V (b + i) 0 2) 96 ∧ V' = V) := by
  obtain ⟨⟨ob, hob⟩, ps, hps, hq, hpgs⟩ := id hS
  refine MetI.of (by decide) (Nat.le_of_ble_eq_true rfl) hap ?_
  intro p_ e_ s_ m_ args_ below_ meth_ c_ C
  have loop : ∀ (n : Nat) (k : Nat), k + n = 96 → G p_ l e_ (rmd 0) s_ m_ args_ below_ meth_ c_ 3 0 0 (MQ below_ (QcI D cy g (fun r V' => r = sumF (fun i => V (b + i) 0 2) 96 ∧ V' = V)) args_ s_ 0 0 (fun q => q ∈ gL g)) D cy g (fun q => q ∈ gL g) s_.heap V 4 [(2, vI ((k : Int))), (1, vI (sumF (fun i => V (b + i) 0 2) k)), (0, .ref a)] [] := by
    intro n
    induction n with
    | zero =>
      intro k hkn
      have hk : k = 96 := by omega
      subst hk
      refine g_iload_n C 0 rfl dX2_cellCount_4 ?_
      refine g_bipush C 96 rfl dX2_cellCount_5 ?_
      refine g_icmp_ge C (by unfold rng; omega) (by unfold rng; omega) 28 dX2_cellCount_7 (by decide) (fun c7 => ?_) (fun c7 => absurd c7 (by omega))
      refine g_iload_n C 1 rfl dX2_cellCount_28 ?_
      exact g_iret C dX2_cellCount_29 ⟨rfl, rfl⟩
    | succ n ih =>
      intro k hkn
      refine g_iload_n C 0 rfl dX2_cellCount_4 ?_
      refine g_bipush C 96 rfl dX2_cellCount_5 ?_
      refine g_icmp_ge C (by unfold rng; omega) (by unfold rng; omega) 28 dX2_cellCount_7 (by decide) (fun c7 => absurd c7 (by omega)) (fun c7 => ?_)
      refine g_iload_n C 1 rfl dX2_cellCount_10 ?_
      refine g_aload_n C 2 rfl dX2_cellCount_11 ?_
      refine gf_Store_pages C hob hps lf_X2_11 dX2_cellCount_12 ?_
      refine g_iload_n C 0 rfl dX2_cellCount_15 ?_
      obtain ⟨pg1, pg1e, pg1h⟩ := hpgs ((k : Int)) (by omega) (by omega)
      obtain ⟨-, pg1r1, pg1r2, pg1r3, pg1r4, ⟨pg1hr1, pg1ha1⟩, ⟨pg1hr2, pg1ha2⟩, ⟨pg1hr3, pg1ha3⟩, ⟨pg1hr4, pg1ha4⟩⟩ := id pg1h
      refine g_aald C hq ⟨by omega, by omega⟩ (by decide) pg1e dX2_cellCount_16 ?_
      refine gfN_Page_cells C pg1h.1 lf_X2_130 dX2_cellCount_17 ?_
      refine g_iadd C dX2_cellCount_20 ?_
      refine g_istore_n C [(1, vI ((sumF (fun i => V (b + i) 0 2) k) + (V (b + ((k : Int))) 0 2))), (2, vI ((k : Int))), (0, .ref a)] dX2_cellCount_21 rfl (by decide) rfl ?_
      refine g_iinc C [(2, vI (((k : Int)) + 1)), (1, vI ((sumF (fun i => V (b + i) 0 2) k) + (V (b + ((k : Int))) 0 2))), (0, .ref a)] 1 rfl dX2_cellCount_22 (by decide) rfl ?_
      refine g_goto C 4 dX2_cellCount_25 (by decide) ?_
      refine g_sub [0, 1, 2] rfl ?_
      exact ih (k + 1) (by omega)
  refine g_iconst C 0 rfl dX2_cellCount_0 ?_
  refine g_istore_n C [(1, vI 0), (0, .ref a)] dX2_cellCount_1 rfl (by decide) rfl ?_
  refine g_iconst C 0 rfl dX2_cellCount_2 ?_
  refine g_istore_n C [(2, vI 0), (1, vI 0), (0, .ref a)] dX2_cellCount_3 rfl (by decide) rfl ?_
  refine g_sub [0, 1, 2] rfl ?_
  exact loop 96 0 (by omega)
set_option maxHeartbeats 4000000 in
set_option maxRecDepth 100000 in
theorem c_X2_stubCount (l : Launch) (D : va_G) (cy : ClassId × ClassId) (g : GT) (V : VT) (a : Nat) (b : Int) (hap : Apart g) (hS : isSt g a b) : MetI l yX2_stubCount cX2_stubCount 3 (some .int) 0 D cy g [.ref a] V (fun r V' => r = sumF (fun i => V (b + i) 0 3) 96 ∧ V' = V) := by
  obtain ⟨⟨ob, hob⟩, ps, hps, hq, hpgs⟩ := id hS
  refine MetI.of (by decide) (Nat.le_of_ble_eq_true rfl) hap ?_
  intro p_ e_ s_ m_ args_ below_ meth_ c_ C
  have loop : ∀ (n : Nat) (k : Nat), k + n = 96 → G p_ l e_ (rmd 0) s_ m_ args_ below_ meth_ c_ 3 0 0 (MQ below_ (QcI D cy g (fun r V' => r = sumF (fun i => V (b + i) 0 3) 96 ∧ V' = V)) args_ s_ 0 0 (fun q => q ∈ gL g)) D cy g (fun q => q ∈ gL g) s_.heap V 4 [(2, vI ((k : Int))), (1, vI (sumF (fun i => V (b + i) 0 3) k)), (0, .ref a)] [] := by
    intro n
    induction n with
    | zero =>
      intro k hkn
      have hk : k = 96 := by omega
      subst hk
      refine g_iload_n C 0 rfl dX2_stubCount_4 ?_
      refine g_bipush C 96 rfl dX2_stubCount_5 ?_
      refine g_icmp_ge C (by unfold rng; omega) (by unfold rng; omega) 28 dX2_stubCount_7 (by decide) (fun c7 => ?_) (fun c7 => absurd c7 (by omega))
      refine g_iload_n C 1 rfl dX2_stubCount_28 ?_
      exact g_iret C dX2_stubCount_29 ⟨rfl, rfl⟩
    | succ n ih =>
      intro k hkn
      refine g_iload_n C 0 rfl dX2_stubCount_4 ?_
      refine g_bipush C 96 rfl dX2_stubCount_5 ?_
      refine g_icmp_ge C (by unfold rng; omega) (by unfold rng; omega) 28 dX2_stubCount_7 (by decide) (fun c7 => absurd c7 (by omega)) (fun c7 => ?_)
      refine g_iload_n C 1 rfl dX2_stubCount_10 ?_
      refine g_aload_n C 2 rfl dX2_stubCount_11 ?_
      refine gf_Store_pages C hob hps lf_X2_11 dX2_stubCount_12 ?_
      refine g_iload_n C 0 rfl dX2_stubCount_15 ?_
      obtain ⟨pg1, pg1e, pg1h⟩ := hpgs ((k : Int)) (by omega) (by omega)
      obtain ⟨-, pg1r1, pg1r2, pg1r3, pg1r4, ⟨pg1hr1, pg1ha1⟩, ⟨pg1hr2, pg1ha2⟩, ⟨pg1hr3, pg1ha3⟩, ⟨pg1hr4, pg1ha4⟩⟩ := id pg1h
      refine g_aald C hq ⟨by omega, by omega⟩ (by decide) pg1e dX2_stubCount_16 ?_
      refine gfN_Page_stubs C pg1h.1 lf_X2_133 dX2_stubCount_17 ?_
      refine g_iadd C dX2_stubCount_20 ?_
      refine g_istore_n C [(1, vI ((sumF (fun i => V (b + i) 0 3) k) + (V (b + ((k : Int))) 0 3))), (2, vI ((k : Int))), (0, .ref a)] dX2_stubCount_21 rfl (by decide) rfl ?_
      refine g_iinc C [(2, vI (((k : Int)) + 1)), (1, vI ((sumF (fun i => V (b + i) 0 3) k) + (V (b + ((k : Int))) 0 3))), (0, .ref a)] 1 rfl dX2_stubCount_22 (by decide) rfl ?_
      refine g_goto C 4 dX2_stubCount_25 (by decide) ?_
      refine g_sub [0, 1, 2] rfl ?_
      exact ih (k + 1) (by omega)
  refine g_iconst C 0 rfl dX2_stubCount_0 ?_
  refine g_istore_n C [(1, vI 0), (0, .ref a)] dX2_stubCount_1 rfl (by decide) rfl ?_
  refine g_iconst C 0 rfl dX2_stubCount_2 ?_
  refine g_istore_n C [(2, vI 0), (1, vI 0), (0, .ref a)] dX2_stubCount_3 rfl (by decide) rfl ?_
  refine g_sub [0, 1, 2] rfl ?_
  exact loop 96 0 (by omega)
set_option maxHeartbeats 4000000 in
set_option maxRecDepth 100000 in
theorem c_X2_compactingCount (l : Launch) (D : va_G) (cy : ClassId × ClassId) (g : GT) (V : VT) (a : Nat) (b : Int) (hap : Apart g) (hS : isSt g a b) : MetI l yX2_compactingCount cX2_compactingCount 3 (some .int) 0 D cy g [.ref a] V (fun r V' => r = sumF (fun i => V (b + i) 0 8) 96 ∧ V' = V) := by
  obtain ⟨⟨ob, hob⟩, ps, hps, hq, hpgs⟩ := id hS
  refine MetI.of (by decide) (Nat.le_of_ble_eq_true rfl) hap ?_
  intro p_ e_ s_ m_ args_ below_ meth_ c_ C
  have loop : ∀ (n : Nat) (k : Nat), k + n = 96 → G p_ l e_ (rmd 0) s_ m_ args_ below_ meth_ c_ 3 0 0 (MQ below_ (QcI D cy g (fun r V' => r = sumF (fun i => V (b + i) 0 8) 96 ∧ V' = V)) args_ s_ 0 0 (fun q => q ∈ gL g)) D cy g (fun q => q ∈ gL g) s_.heap V 4 [(2, vI ((k : Int))), (1, vI (sumF (fun i => V (b + i) 0 8) k)), (0, .ref a)] [] := by
    intro n
    induction n with
    | zero =>
      intro k hkn
      have hk : k = 96 := by omega
      subst hk
      refine g_iload_n C 0 rfl dX2_compactingCount_4 ?_
      refine g_bipush C 96 rfl dX2_compactingCount_5 ?_
      refine g_icmp_ge C (by unfold rng; omega) (by unfold rng; omega) 28 dX2_compactingCount_7 (by decide) (fun c7 => ?_) (fun c7 => absurd c7 (by omega))
      refine g_iload_n C 1 rfl dX2_compactingCount_28 ?_
      exact g_iret C dX2_compactingCount_29 ⟨rfl, rfl⟩
    | succ n ih =>
      intro k hkn
      refine g_iload_n C 0 rfl dX2_compactingCount_4 ?_
      refine g_bipush C 96 rfl dX2_compactingCount_5 ?_
      refine g_icmp_ge C (by unfold rng; omega) (by unfold rng; omega) 28 dX2_compactingCount_7 (by decide) (fun c7 => absurd c7 (by omega)) (fun c7 => ?_)
      refine g_iload_n C 1 rfl dX2_compactingCount_10 ?_
      refine g_aload_n C 2 rfl dX2_compactingCount_11 ?_
      refine gf_Store_pages C hob hps lf_X2_11 dX2_compactingCount_12 ?_
      refine g_iload_n C 0 rfl dX2_compactingCount_15 ?_
      obtain ⟨pg1, pg1e, pg1h⟩ := hpgs ((k : Int)) (by omega) (by omega)
      obtain ⟨-, pg1r1, pg1r2, pg1r3, pg1r4, ⟨pg1hr1, pg1ha1⟩, ⟨pg1hr2, pg1ha2⟩, ⟨pg1hr3, pg1ha3⟩, ⟨pg1hr4, pg1ha4⟩⟩ := id pg1h
      refine g_aald C hq ⟨by omega, by omega⟩ (by decide) pg1e dX2_compactingCount_16 ?_
      refine gfN_Page_compactings C pg1h.1 lf_X2_136 dX2_compactingCount_17 ?_
      refine g_iadd C dX2_compactingCount_20 ?_
      refine g_istore_n C [(1, vI ((sumF (fun i => V (b + i) 0 8) k) + (V (b + ((k : Int))) 0 8))), (2, vI ((k : Int))), (0, .ref a)] dX2_compactingCount_21 rfl (by decide) rfl ?_
      refine g_iinc C [(2, vI (((k : Int)) + 1)), (1, vI ((sumF (fun i => V (b + i) 0 8) k) + (V (b + ((k : Int))) 0 8))), (0, .ref a)] 1 rfl dX2_compactingCount_22 (by decide) rfl ?_
      refine g_goto C 4 dX2_compactingCount_25 (by decide) ?_
      refine g_sub [0, 1, 2] rfl ?_
      exact ih (k + 1) (by omega)
  refine g_iconst C 0 rfl dX2_compactingCount_0 ?_
  refine g_istore_n C [(1, vI 0), (0, .ref a)] dX2_compactingCount_1 rfl (by decide) rfl ?_
  refine g_iconst C 0 rfl dX2_compactingCount_2 ?_
  refine g_istore_n C [(2, vI 0), (1, vI 0), (0, .ref a)] dX2_compactingCount_3 rfl (by decide) rfl ?_
  refine g_sub [0, 1, 2] rfl ?_
  exact loop 96 0 (by omega)
set_option maxHeartbeats 4000000 in
set_option maxRecDepth 100000 in
theorem c_X2_leastFreePage (l : Launch) (D : va_G) (cy : ClassId × ClassId) (g : GT) (V : VT) (a : Nat) (b : Int) (f : Int) (hap : Apart g) (hS : isSt g a b) (hw : swf V b) (hf : 0 ≤ f ∧ f ≤ 96) : MetI l yX2_leastFreePage cX2_leastFreePage 3 (some .int) 0 D cy g [.ref a, vI f] V (fun r V' => isLF (kd V b) f r ∧ V' = V) := by
  obtain ⟨⟨ob, hob⟩, ps, hps, hq, hpgs⟩ := id hS
  refine MetI.of (by decide) (Nat.le_of_ble_eq_true rfl) hap ?_
  intro p_ e_ s_ m_ args_ below_ meth_ c_ C
  have loop : ∀ (n : Nat) (i : Int), f ≤ i ∧ i ≤ 96 → 96 - i ≤ n → (∀ j, f ≤ j → j < i → kd V b j ≠ 0) → G p_ l e_ (rmd 0) s_ m_ args_ below_ meth_ c_ 3 0 0 (MQ below_ (QcI D cy g (fun r V' => isLF (kd V b) f r ∧ V' = V)) args_ s_ 0 0 (fun q => q ∈ gL g)) D cy g (fun q => q ∈ gL g) s_.heap V 2 [(2, vI i), (0, .ref a), (1, vI f)] [] := by
    intro n
    induction n with
    | zero =>
      intro i h1 h3 h4
      refine g_iload_n C 0 rfl dX2_leastFreePage_2 ?_
      refine g_bipush C 96 rfl dX2_leastFreePage_3 ?_
      refine g_icmp_ge C (by unfold rng; omega) (by unfold rng; omega) 28 dX2_leastFreePage_5 (by decide) (fun c5 => ?_) (fun c5 => absurd c5 (by omega))
      refine g_iconst C (-1) rfl dX2_leastFreePage_28 ?_
      exact g_iret C dX2_leastFreePage_29 ⟨Or.inl ⟨rfl, fun j q1 q2 => h4 j q1 (by omega)⟩, rfl⟩
    | succ n ih =>
      intro i h1 h3 h4
      refine g_iload_n C 0 rfl dX2_leastFreePage_2 ?_
      refine g_bipush C 96 rfl dX2_leastFreePage_3 ?_
      refine g_icmp_ge C (by unfold rng; omega) (by unfold rng; omega) 28 dX2_leastFreePage_5 (by decide) (fun c5 => ?_) (fun c5 => ?_)
      · refine g_iconst C (-1) rfl dX2_leastFreePage_28 ?_
        exact g_iret C dX2_leastFreePage_29 ⟨Or.inl ⟨rfl, fun j q1 q2 => h4 j q1 (by omega)⟩, rfl⟩
      · refine g_aload_n C 1 rfl dX2_leastFreePage_8 ?_
        refine gf_Store_pages C hob hps lf_X2_11 dX2_leastFreePage_9 ?_
        refine g_iload_n C 0 rfl dX2_leastFreePage_12 ?_
        obtain ⟨pg1, pg1e, pg1h⟩ := hpgs i (by omega) (by omega)
        obtain ⟨-, pg1r1, pg1r2, pg1r3, pg1r4, ⟨pg1hr1, pg1ha1⟩, ⟨pg1hr2, pg1ha2⟩, ⟨pg1hr3, pg1ha3⟩, ⟨pg1hr4, pg1ha4⟩⟩ := id pg1h
        refine g_aald C hq ⟨by omega, by omega⟩ (by decide) pg1e dX2_leastFreePage_13 ?_
        refine gfN_Page_kind C pg1h.1 lf_X2_106 dX2_leastFreePage_14 ?_
        refine g_if_ne C (by have := (hw i (by omega) (by omega)).1; unfold rng; unfold sm at this; omega) 22 dX2_leastFreePage_17 (by decide) (fun c17 => ?_) (fun c17 => ?_)
        · refine g_iinc C [(2, vI (i + 1)), (0, .ref a), (1, vI f)] 0 rfl dX2_leastFreePage_22 (by decide) rfl ?_
          refine g_goto C 2 dX2_leastFreePage_25 (by decide) ?_
          refine g_sub [0, 1, 2] rfl ?_
          refine ih (i + 1) (by omega) (by omega) (fun j q1 q2 => ?_)
          by_cases hj : j = i
          · subst hj; exact c17
          · exact h4 j q1 (by omega)
        · refine g_iload_n C 0 rfl dX2_leastFreePage_20 ?_
          exact g_iret C dX2_leastFreePage_21 ⟨Or.inr ⟨by omega, by omega, c17, h4⟩, rfl⟩
  refine g_iload_n C 1 rfl dX2_leastFreePage_0 ?_
  refine g_istore_n C [(2, vI f), (0, .ref a), (1, vI f)] dX2_leastFreePage_1 rfl (by decide) rfl ?_
  refine g_sub [0, 1, 2] rfl ?_
  exact loop (96 - f).toNat f (by omega) (by omega) (fun j q1 q2 => absurd q1 (by omega))
