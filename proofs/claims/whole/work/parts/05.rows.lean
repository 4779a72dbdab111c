section
variable {p : Program} {l : Launch} {e : Env} {R : Room} {s : State} {m : MethodId} {args : Array Value} {below : List Frame} {meth : Method} {c : Code} {cells slots nL : Nat} {Q : State → Prop}
variable {cc : ByteArray} {own : String} {ret : Option FieldType} {D : va_G} {cy : ClassId × ClassId} {g : GT} {A : Nat → Prop} {H0 : Heap} {V : VT} {pc : Nat} {lv : List (Nat × Value)} {st : List Value}
def G (p : Program) (l : Launch) (e : Env) (R : Room) (s : State) (m : MethodId) (args : Array Value) (below : List Frame) (meth : Method) (c : Code) (nL cells slots : Nat) (Q : State → Prop) (D : va_G) (cy : ClassId × ClassId) (g : GT) (A : Nat → Prop) (H0 : Heap) (V : VT) (pc : Nat) (lv : List (Nat × Value)) (st : List Value) : Prop :=
  ∀ (H : Heap) (locs : List Loc) (ls : Array Slot), va_P D vwCl (pw cy g V) H → va_S A H0 H locs → lv_has ls nL lv → W p l e R s m args below meth c H locs cells slots Q (F0 m pc ls st)
def Cx (p : Program) (s : State) (m : MethodId) (args : Array Value) (meth : Method) (c : Code) (cc : ByteArray) (nL : Nat) (own : String) (ret : Option FieldType) (D : va_G) (cy : ClassId × ClassId) (g : GT) (A : Nat → Prop) : Prop :=
  CallFix p m c cc nL s args wsG own ∧ va_K D vwCl (tyc cy) s ∧ NW s ∧ Apart g ∧ (∀ q ∈ gL g, A q) ∧ meth.sig.returnType = ret ∧ meth.locks = false
theorem g_iadd (C : Cx p s m args meth c cc nL own ret D cy g A) {x y : Int} (hd : decode cc pc = .ok (.iadd, 1)) (k : G p l e R s m args below meth c nL cells slots Q D cy g A H0 V (pc + 1) lv (vI (x + y) :: st)) : G p l e R s m args below meth c nL cells slots Q D cy g A H0 V pc lv (vI y :: vI x :: st) := by
  intro H locs ls hP hS hl
  exact lv_iadd C.1.1 C.1.2.1 hd (by rw [iI_add]; exact k H locs ls hP hS hl)
theorem g_isub (C : Cx p s m args meth c cc nL own ret D cy g A) {x y : Int} (hd : decode cc pc = .ok (.isub, 1)) (k : G p l e R s m args below meth c nL cells slots Q D cy g A H0 V (pc + 1) lv (vI (x - y) :: st)) : G p l e R s m args below meth c nL cells slots Q D cy g A H0 V pc lv (vI y :: vI x :: st) := by
  intro H locs ls hP hS hl
  exact lv_isub C.1.1 C.1.2.1 hd (by rw [iI_sub]; exact k H locs ls hP hS hl)
theorem g_imul (C : Cx p s m args meth c cc nL own ret D cy g A) {x y : Int} (hd : decode cc pc = .ok (.imul, 1)) (k : G p l e R s m args below meth c nL cells slots Q D cy g A H0 V (pc + 1) lv (vI (x * y) :: st)) : G p l e R s m args below meth c nL cells slots Q D cy g A H0 V pc lv (vI y :: vI x :: st) := by
  intro H locs ls hP hS hl
  exact lv_imul C.1.1 C.1.2.1 hd (by rw [iI_mul]; exact k H locs ls hP hS hl)
theorem g_idiv (C : Cx p s m args meth c cc nL own ret D cy g A) {x y : Int} (hx : 0 ≤ x ∧ x < 2147483648) (hy : 0 < y ∧ y < 2147483648) (hd : decode cc pc = .ok (.idiv, 1)) (k : G p l e R s m args below meth c nL cells slots Q D cy g A H0 V (pc + 1) lv (vI (x / y) :: st)) : G p l e R s m args below meth c nL cells slots Q D cy g A H0 V pc lv (vI y :: vI x :: st) := by
  intro H locs ls hP hS hl
  have hry : rng y := ⟨by omega, by omega⟩
  have hrx : rng x := ⟨by omega, by omega⟩
  exact lv_idiv C.1.1 C.1.2.1 hd (fun h => by have := (iI_eq hry rng0).mp h; omega) (by rw [iI_div hrx hry hx.1 hy.1]; exact k H locs ls hP hS hl)
theorem g_irem (C : Cx p s m args meth c cc nL own ret D cy g A) {x y : Int} (hx : 0 ≤ x ∧ x < 2147483648) (hy : 0 < y ∧ y < 2147483648) (hd : decode cc pc = .ok (.irem, 1)) (k : G p l e R s m args below meth c nL cells slots Q D cy g A H0 V (pc + 1) lv (vI (x % y) :: st)) : G p l e R s m args below meth c nL cells slots Q D cy g A H0 V pc lv (vI y :: vI x :: st) := by
  intro H locs ls hP hS hl
  have hry : rng y := ⟨by omega, by omega⟩
  have hrx : rng x := ⟨by omega, by omega⟩
  have he : x - x / y * y = x % y := by have := Int.mul_ediv_add_emod x y; rw [Int.mul_comm] at this; omega
  exact lv_irem C.1.1 C.1.2.1 hd (fun h => by have := (iI_eq hry rng0).mp h; omega) (by rw [iI_div hrx hry hx.1 hy.1, iI_mul, iI_sub, he]; exact k H locs ls hP hS hl)
theorem g_iconst (C : Cx p s m args meth c cc nL own ret D cy g A) {n : Int} (x : Int) (hv : Int32.ofInt n = iI x) (hd : decode cc pc = .ok (.iconst n, 1)) (k : G p l e R s m args below meth c nL cells slots Q D cy g A H0 V (pc + 1) lv (vI x :: st)) : G p l e R s m args below meth c nL cells slots Q D cy g A H0 V pc lv (st) := by
  intro H locs ls hP hS hl
  exact lv_iconst C.1.1 C.1.2.1 hd hv (k H locs ls hP hS hl)
theorem g_bipush (C : Cx p s m args meth c cc nL own ret D cy g A) {n : Int} (x : Int) (hv : (Int8.ofInt n).toInt32 = iI x) (hd : decode cc pc = .ok (.bipush n, 2)) (k : G p l e R s m args below meth c nL cells slots Q D cy g A H0 V (pc + 2) lv (vI x :: st)) : G p l e R s m args below meth c nL cells slots Q D cy g A H0 V pc lv (st) := by
  intro H locs ls hP hS hl
  exact lv_bipush C.1.1 C.1.2.1 hd hv (k H locs ls hP hS hl)
theorem g_sipush (C : Cx p s m args meth c cc nL own ret D cy g A) {n : Int} (x : Int) (hv : (Int16.ofInt n).toInt32 = iI x) (hd : decode cc pc = .ok (.sipush n, 3)) (k : G p l e R s m args below meth c nL cells slots Q D cy g A H0 V (pc + 3) lv (vI x :: st)) : G p l e R s m args below meth c nL cells slots Q D cy g A H0 V pc lv (st) := by
  intro H locs ls hP hS hl
  exact lv_sipush C.1.1 C.1.2.1 hd hv (k H locs ls hP hS hl)
theorem g_dupI (C : Cx p s m args meth c cc nL own ret D cy g A) {x : Int} (hd : decode cc pc = .ok (.dup, 1)) (k : G p l e R s m args below meth c nL cells slots Q D cy g A H0 V (pc + 1) lv (vI x :: vI x :: st)) : G p l e R s m args below meth c nL cells slots Q D cy g A H0 V pc lv (vI x :: st) := by
  intro H locs ls hP hS hl
  exact lv_dup C.1.1 C.1.2.1 hd rfl (k H locs ls hP hS hl)
theorem g_dupR (C : Cx p s m args meth c cc nL own ret D cy g A) {x : Nat} (hd : decode cc pc = .ok (.dup, 1)) (k : G p l e R s m args below meth c nL cells slots Q D cy g A H0 V (pc + 1) lv (.ref x :: .ref x :: st)) : G p l e R s m args below meth c nL cells slots Q D cy g A H0 V pc lv (.ref x :: st) := by
  intro H locs ls hP hS hl
  exact lv_dup C.1.1 C.1.2.1 hd rfl (k H locs ls hP hS hl)
theorem g_popI (C : Cx p s m args meth c cc nL own ret D cy g A) {x : Int} (hd : decode cc pc = .ok (.pop, 1)) (k : G p l e R s m args below meth c nL cells slots Q D cy g A H0 V (pc + 1) lv (st)) : G p l e R s m args below meth c nL cells slots Q D cy g A H0 V pc lv (vI x :: st) := by
  intro H locs ls hP hS hl
  exact lv_pop C.1.1 C.1.2.1 hd rfl (k H locs ls hP hS hl)
theorem g_iload_n (C : Cx p s m args meth c cc nL own ret D cy g A) {k : Fin 4} {x : Int} (j : Nat) (hk : lv[j]? = some ((k : Nat), vI x)) (hd : decode cc pc = .ok (.iload_n k, 1)) (kk : G p l e R s m args below meth c nL cells slots Q D cy g A H0 V (pc + 1) lv (vI x :: st)) : G p l e R s m args below meth c nL cells slots Q D cy g A H0 V pc lv (st) := by
  intro H locs ls hP hS hl
  exact lv_iload_n C.1.1 C.1.2.1 hd rfl (lv_at hl j hk) (kk H locs ls hP hS hl)
theorem g_iload (C : Cx p s m args meth c cc nL own ret D cy g A) {i : Nat} {x : Int} (j : Nat) (hk : lv[j]? = some (i, vI x)) (hd : decode cc pc = .ok (.iload i, 2)) (k : G p l e R s m args below meth c nL cells slots Q D cy g A H0 V (pc + 2) lv (vI x :: st)) : G p l e R s m args below meth c nL cells slots Q D cy g A H0 V pc lv (st) := by
  intro H locs ls hP hS hl
  exact lv_iload C.1.1 C.1.2.1 hd (lv_at hl j hk) (k H locs ls hP hS hl)
theorem g_aload_n (C : Cx p s m args meth c cc nL own ret D cy g A) {k : Fin 4} {x : Nat} (j : Nat) (hk : lv[j]? = some ((k : Nat), .ref x)) (hd : decode cc pc = .ok (.aload_n k, 1)) (kk : G p l e R s m args below meth c nL cells slots Q D cy g A H0 V (pc + 1) lv (.ref x :: st)) : G p l e R s m args below meth c nL cells slots Q D cy g A H0 V pc lv (st) := by
  intro H locs ls hP hS hl
  exact lv_aload_n C.1.1 C.1.2.1 hd rfl (lv_at hl j hk) (kk H locs ls hP hS hl)
theorem g_aload (C : Cx p s m args meth c cc nL own ret D cy g A) {i : Nat} {x : Nat} (j : Nat) (hk : lv[j]? = some (i, .ref x)) (hd : decode cc pc = .ok (.aload i, 2)) (k : G p l e R s m args below meth c nL cells slots Q D cy g A H0 V (pc + 2) lv (.ref x :: st)) : G p l e R s m args below meth c nL cells slots Q D cy g A H0 V pc lv (st) := by
  intro H locs ls hP hS hl
  exact lv_aload C.1.1 C.1.2.1 hd (lv_at hl j hk) (k H locs ls hP hS hl)
theorem g_istore_n (C : Cx p s m args meth c cc nL own ret D cy g A) {k : Fin 4} {i : Nat} {x : Int} (lv' : List (Nat × Value)) (hd : decode cc pc = .ok (.istore_n k, 1)) (hi : (k : Nat) = i) (hn : i < nL) (hl' : (i, vI x) :: lv.filter (fun q => !(q.1 == i) && !(q.1 + 1 == i && q.2.category == 2)) = lv') (kk : G p l e R s m args below meth c nL cells slots Q D cy g A H0 V (pc + 1) lv' st) : G p l e R s m args below meth c nL cells slots Q D cy g A H0 V pc lv (vI x :: st) := by
  intro H locs ls hP hS hl
  exact lv_istore_n C.1.1 C.1.2.1 hd hi hl hn hl' (fun ls' hl2 => kk H locs ls' hP hS hl2)
theorem g_istore (C : Cx p s m args meth c cc nL own ret D cy g A) {i : Nat} {x : Int} (lv' : List (Nat × Value)) (hd : decode cc pc = .ok (.istore i, 2)) (hn : i < nL) (hl' : (i, vI x) :: lv.filter (fun q => !(q.1 == i) && !(q.1 + 1 == i && q.2.category == 2)) = lv') (kk : G p l e R s m args below meth c nL cells slots Q D cy g A H0 V (pc + 2) lv' st) : G p l e R s m args below meth c nL cells slots Q D cy g A H0 V pc lv (vI x :: st) := by
  intro H locs ls hP hS hl
  exact lv_istore C.1.1 C.1.2.1 hd hl hn hl' (fun ls' hl2 => kk H locs ls' hP hS hl2)
theorem g_astore_n (C : Cx p s m args meth c cc nL own ret D cy g A) {k : Fin 4} {i : Nat} {x : Nat} (lv' : List (Nat × Value)) (hd : decode cc pc = .ok (.astore_n k, 1)) (hi : (k : Nat) = i) (hn : i < nL) (hl' : (i, .ref x) :: lv.filter (fun q => !(q.1 == i) && !(q.1 + 1 == i && q.2.category == 2)) = lv') (kk : G p l e R s m args below meth c nL cells slots Q D cy g A H0 V (pc + 1) lv' st) : G p l e R s m args below meth c nL cells slots Q D cy g A H0 V pc lv (.ref x :: st) := by
  intro H locs ls hP hS hl
  exact lv_astore_n C.1.1 C.1.2.1 hd hi hl hn hl' (fun ls' hl2 => kk H locs ls' hP hS hl2)
theorem g_astore (C : Cx p s m args meth c cc nL own ret D cy g A) {i : Nat} {x : Nat} (lv' : List (Nat × Value)) (hd : decode cc pc = .ok (.astore i, 2)) (hn : i < nL) (hl' : (i, .ref x) :: lv.filter (fun q => !(q.1 == i) && !(q.1 + 1 == i && q.2.category == 2)) = lv') (kk : G p l e R s m args below meth c nL cells slots Q D cy g A H0 V (pc + 2) lv' st) : G p l e R s m args below meth c nL cells slots Q D cy g A H0 V pc lv (.ref x :: st) := by
  intro H locs ls hP hS hl
  exact lv_astore C.1.1 C.1.2.1 hd hl hn hl' (fun ls' hl2 => kk H locs ls' hP hS hl2)
theorem g_iinc (C : Cx p s m args meth c cc nL own ret D cy g A) {i : Nat} {n x : Int} (lv' : List (Nat × Value)) (j : Nat) (hk : lv[j]? = some (i, vI x)) (hd : decode cc pc = .ok (.iinc i n, 3)) (hn : i < nL) (hl' : (i, vI (x + n)) :: lv.filter (fun q => !(q.1 == i) && !(q.1 + 1 == i && q.2.category == 2)) = lv') (kk : G p l e R s m args below meth c nL cells slots Q D cy g A H0 V (pc + 3) lv' st) : G p l e R s m args below meth c nL cells slots Q D cy g A H0 V pc lv st := by
  intro H locs ls hP hS hl
  exact lv_iinc (x := iI x) (v := iI (x + n)) C.1.1 C.1.2.1 hd hl hk (iI_add x n) hn hl' (fun ls' hl2 => kk H locs ls' hP hS hl2)
theorem g_goto (C : Cx p s m args meth c cc nL own ret D cy g A) {off : Int} (tgt : Nat) (hd : decode cc pc = .ok (.goto off, 3)) (ht : (pc : Int) + off = (tgt : Int)) (k : G p l e R s m args below meth c nL cells slots Q D cy g A H0 V tgt lv st) : G p l e R s m args below meth c nL cells slots Q D cy g A H0 V pc lv st := by
  intro H locs ls hP hS hl
  exact lv_goto C.1.1 C.1.2.1 hd ht (k H locs ls hP hS hl)
theorem g_icmp_eq (C : Cx p s m args meth c cc nL own ret D cy g A) {x y : Int} (hx : rng x) (hy : rng y) {off : Int} (tgt : Nat) (hd : decode cc pc = .ok (.if_icmp .eq off, 3)) (ht : (pc : Int) + off = (tgt : Int)) (kt : x = y → G p l e R s m args below meth c nL cells slots Q D cy g A H0 V tgt lv st) (kf : ¬ x = y → G p l e R s m args below meth c nL cells slots Q D cy g A H0 V (pc + 3) lv st) : G p l e R s m args below meth c nL cells slots Q D cy g A H0 V pc lv (vI y :: vI x :: st) := by
  intro H locs ls hP hS hl
  exact lv_icmp_eq C.1.1 C.1.2.1 hd ht (fun h => kt ((iI_eq hx hy).mp h) H locs ls hP hS hl) (fun h => kf (fun q => h ((iI_eq hx hy).mpr q)) H locs ls hP hS hl)
theorem g_if_eq (C : Cx p s m args meth c cc nL own ret D cy g A) {x : Int} (hx : rng x) {off : Int} (tgt : Nat) (hd : decode cc pc = .ok (.ifCond .eq off, 3)) (ht : (pc : Int) + off = (tgt : Int)) (kt : x = 0 → G p l e R s m args below meth c nL cells slots Q D cy g A H0 V tgt lv st) (kf : ¬ x = 0 → G p l e R s m args below meth c nL cells slots Q D cy g A H0 V (pc + 3) lv st) : G p l e R s m args below meth c nL cells slots Q D cy g A H0 V pc lv (vI x :: st) := by
  intro H locs ls hP hS hl
  exact lv_if_eq C.1.1 C.1.2.1 hd ht (fun h => kt ((iI_eq hx rng0).mp h) H locs ls hP hS hl) (fun h => kf (fun q => h ((iI_eq hx rng0).mpr q)) H locs ls hP hS hl)
theorem g_icmp_ne (C : Cx p s m args meth c cc nL own ret D cy g A) {x y : Int} (hx : rng x) (hy : rng y) {off : Int} (tgt : Nat) (hd : decode cc pc = .ok (.if_icmp .ne off, 3)) (ht : (pc : Int) + off = (tgt : Int)) (kt : ¬ x = y → G p l e R s m args below meth c nL cells slots Q D cy g A H0 V tgt lv st) (kf : x = y → G p l e R s m args below meth c nL cells slots Q D cy g A H0 V (pc + 3) lv st) : G p l e R s m args below meth c nL cells slots Q D cy g A H0 V pc lv (vI y :: vI x :: st) := by
  intro H locs ls hP hS hl
  exact lv_icmp_ne C.1.1 C.1.2.1 hd ht (fun h => kt (fun q => h ((iI_eq hx hy).mpr q)) H locs ls hP hS hl) (fun h => kf (by first | exact (iI_eq hx hy).mp h | exact (iI_eq hx hy).mp (Classical.not_not.mp h)) H locs ls hP hS hl)
theorem g_if_ne (C : Cx p s m args meth c cc nL own ret D cy g A) {x : Int} (hx : rng x) {off : Int} (tgt : Nat) (hd : decode cc pc = .ok (.ifCond .ne off, 3)) (ht : (pc : Int) + off = (tgt : Int)) (kt : ¬ x = 0 → G p l e R s m args below meth c nL cells slots Q D cy g A H0 V tgt lv st) (kf : x = 0 → G p l e R s m args below meth c nL cells slots Q D cy g A H0 V (pc + 3) lv st) : G p l e R s m args below meth c nL cells slots Q D cy g A H0 V pc lv (vI x :: st) := by
  intro H locs ls hP hS hl
  exact lv_if_ne C.1.1 C.1.2.1 hd ht (fun h => kt (fun q => h ((iI_eq hx rng0).mpr q)) H locs ls hP hS hl) (fun h => kf (by first | exact (iI_eq hx rng0).mp h | exact (iI_eq hx rng0).mp (Classical.not_not.mp h)) H locs ls hP hS hl)
theorem g_icmp_lt (C : Cx p s m args meth c cc nL own ret D cy g A) {x y : Int} (hx : rng x) (hy : rng y) {off : Int} (tgt : Nat) (hd : decode cc pc = .ok (.if_icmp .lt off, 3)) (ht : (pc : Int) + off = (tgt : Int)) (kt : x < y → G p l e R s m args below meth c nL cells slots Q D cy g A H0 V tgt lv st) (kf : y ≤ x → G p l e R s m args below meth c nL cells slots Q D cy g A H0 V (pc + 3) lv st) : G p l e R s m args below meth c nL cells slots Q D cy g A H0 V pc lv (vI y :: vI x :: st) := by
  intro H locs ls hP hS hl
  exact lv_icmp_lt C.1.1 C.1.2.1 hd ht (fun h => kt ((iI_lt hx hy).mp h) H locs ls hP hS hl) (fun h => kf (Int.not_lt.mp (fun q => h ((iI_lt hx hy).mpr q))) H locs ls hP hS hl)
theorem g_if_lt (C : Cx p s m args meth c cc nL own ret D cy g A) {x : Int} (hx : rng x) {off : Int} (tgt : Nat) (hd : decode cc pc = .ok (.ifCond .lt off, 3)) (ht : (pc : Int) + off = (tgt : Int)) (kt : x < 0 → G p l e R s m args below meth c nL cells slots Q D cy g A H0 V tgt lv st) (kf : 0 ≤ x → G p l e R s m args below meth c nL cells slots Q D cy g A H0 V (pc + 3) lv st) : G p l e R s m args below meth c nL cells slots Q D cy g A H0 V pc lv (vI x :: st) := by
  intro H locs ls hP hS hl
  exact lv_if_lt C.1.1 C.1.2.1 hd ht (fun h => kt ((iI_lt hx rng0).mp h) H locs ls hP hS hl) (fun h => kf (Int.not_lt.mp (fun q => h ((iI_lt hx rng0).mpr q))) H locs ls hP hS hl)
theorem g_icmp_ge (C : Cx p s m args meth c cc nL own ret D cy g A) {x y : Int} (hx : rng x) (hy : rng y) {off : Int} (tgt : Nat) (hd : decode cc pc = .ok (.if_icmp .ge off, 3)) (ht : (pc : Int) + off = (tgt : Int)) (kt : y ≤ x → G p l e R s m args below meth c nL cells slots Q D cy g A H0 V tgt lv st) (kf : x < y → G p l e R s m args below meth c nL cells slots Q D cy g A H0 V (pc + 3) lv st) : G p l e R s m args below meth c nL cells slots Q D cy g A H0 V pc lv (vI y :: vI x :: st) := by
  intro H locs ls hP hS hl
  exact lv_icmp_ge C.1.1 C.1.2.1 hd ht (fun h => kt ((iI_le hy hx).mp h) H locs ls hP hS hl) (fun h => kf (Int.not_le.mp (fun q => h ((iI_le hy hx).mpr q))) H locs ls hP hS hl)
theorem g_if_ge (C : Cx p s m args meth c cc nL own ret D cy g A) {x : Int} (hx : rng x) {off : Int} (tgt : Nat) (hd : decode cc pc = .ok (.ifCond .ge off, 3)) (ht : (pc : Int) + off = (tgt : Int)) (kt : 0 ≤ x → G p l e R s m args below meth c nL cells slots Q D cy g A H0 V tgt lv st) (kf : x < 0 → G p l e R s m args below meth c nL cells slots Q D cy g A H0 V (pc + 3) lv st) : G p l e R s m args below meth c nL cells slots Q D cy g A H0 V pc lv (vI x :: st) := by
  intro H locs ls hP hS hl
  exact lv_if_ge C.1.1 C.1.2.1 hd ht (fun h => kt ((iI_le rng0 hx).mp h) H locs ls hP hS hl) (fun h => kf (Int.not_le.mp (fun q => h ((iI_le rng0 hx).mpr q))) H locs ls hP hS hl)
theorem g_icmp_gt (C : Cx p s m args meth c cc nL own ret D cy g A) {x y : Int} (hx : rng x) (hy : rng y) {off : Int} (tgt : Nat) (hd : decode cc pc = .ok (.if_icmp .gt off, 3)) (ht : (pc : Int) + off = (tgt : Int)) (kt : y < x → G p l e R s m args below meth c nL cells slots Q D cy g A H0 V tgt lv st) (kf : x ≤ y → G p l e R s m args below meth c nL cells slots Q D cy g A H0 V (pc + 3) lv st) : G p l e R s m args below meth c nL cells slots Q D cy g A H0 V pc lv (vI y :: vI x :: st) := by
  intro H locs ls hP hS hl
  exact lv_icmp_gt C.1.1 C.1.2.1 hd ht (fun h => kt ((iI_lt hy hx).mp h) H locs ls hP hS hl) (fun h => kf (Int.not_lt.mp (fun q => h ((iI_lt hy hx).mpr q))) H locs ls hP hS hl)
theorem g_if_gt (C : Cx p s m args meth c cc nL own ret D cy g A) {x : Int} (hx : rng x) {off : Int} (tgt : Nat) (hd : decode cc pc = .ok (.ifCond .gt off, 3)) (ht : (pc : Int) + off = (tgt : Int)) (kt : 0 < x → G p l e R s m args below meth c nL cells slots Q D cy g A H0 V tgt lv st) (kf : x ≤ 0 → G p l e R s m args below meth c nL cells slots Q D cy g A H0 V (pc + 3) lv st) : G p l e R s m args below meth c nL cells slots Q D cy g A H0 V pc lv (vI x :: st) := by
  intro H locs ls hP hS hl
  exact lv_if_gt C.1.1 C.1.2.1 hd ht (fun h => kt ((iI_lt rng0 hx).mp h) H locs ls hP hS hl) (fun h => kf (Int.not_lt.mp (fun q => h ((iI_lt rng0 hx).mpr q))) H locs ls hP hS hl)
theorem g_icmp_le (C : Cx p s m args meth c cc nL own ret D cy g A) {x y : Int} (hx : rng x) (hy : rng y) {off : Int} (tgt : Nat) (hd : decode cc pc = .ok (.if_icmp .le off, 3)) (ht : (pc : Int) + off = (tgt : Int)) (kt : x ≤ y → G p l e R s m args below meth c nL cells slots Q D cy g A H0 V tgt lv st) (kf : y < x → G p l e R s m args below meth c nL cells slots Q D cy g A H0 V (pc + 3) lv st) : G p l e R s m args below meth c nL cells slots Q D cy g A H0 V pc lv (vI y :: vI x :: st) := by
  intro H locs ls hP hS hl
  exact lv_icmp_le C.1.1 C.1.2.1 hd ht (fun h => kt ((iI_le hx hy).mp h) H locs ls hP hS hl) (fun h => kf (Int.not_le.mp (fun q => h ((iI_le hx hy).mpr q))) H locs ls hP hS hl)
theorem g_if_le (C : Cx p s m args meth c cc nL own ret D cy g A) {x : Int} (hx : rng x) {off : Int} (tgt : Nat) (hd : decode cc pc = .ok (.ifCond .le off, 3)) (ht : (pc : Int) + off = (tgt : Int)) (kt : x ≤ 0 → G p l e R s m args below meth c nL cells slots Q D cy g A H0 V tgt lv st) (kf : 0 < x → G p l e R s m args below meth c nL cells slots Q D cy g A H0 V (pc + 3) lv st) : G p l e R s m args below meth c nL cells slots Q D cy g A H0 V pc lv (vI x :: st) := by
  intro H locs ls hP hS hl
  exact lv_if_le C.1.1 C.1.2.1 hd ht (fun h => kt ((iI_le hx rng0).mp h) H locs ls hP hS hl) (fun h => kf (Int.not_le.mp (fun q => h ((iI_le hx rng0).mpr q))) H locs ls hP hS hl)
theorem g_sub {lv' : List (Nat × Value)} (ks : List Nat) (hk : lv_pick lv ks = lv') (k : G p l e R s m args below meth c nL cells slots Q D cy g A H0 V pc lv' st) : G p l e R s m args below meth c nL cells slots Q D cy g A H0 V pc lv st := by
  intro H locs ls hP hS hl
  exact k H locs ls hP hS (lv_sub hl ks hk)
theorem g_V {V' : VT} (h : V = V') (k : G p l e R s m args below meth c nL cells slots Q D cy g A H0 V' pc lv st) : G p l e R s m args below meth c nL cells slots Q D cy g A H0 V pc lv st := h ▸ k
theorem g_st {st' : List Value} (h : st = st') (k : G p l e R s m args below meth c nL cells slots Q D cy g A H0 V pc lv st') : G p l e R s m args below meth c nL cells slots Q D cy g A H0 V pc lv st := h ▸ k
theorem g_lv {lv' : List (Nat × Value)} (h : lv = lv') (k : G p l e R s m args below meth c nL cells slots Q D cy g A H0 V pc lv' st) : G p l e R s m args below meth c nL cells slots Q D cy g A H0 V pc lv st := h ▸ k
end
section
variable {p : Program} {l : Launch} {e : Env} {R : Room} {s : State} {m : MethodId} {args : Array Value} {below : List Frame} {meth : Method} {c : Code} {cells slots nL : Nat} {Q : State → Prop}
variable {cc : ByteArray} {own : String} {ret : Option FieldType} {D : va_G} {cy : ClassId × ClassId} {g : GT} {A : Nat → Prop} {H0 : Heap} {V : VT} {pc : Nat} {lv : List (Nat × Value)} {st : List Value}
theorem g_get (C : Cx p s m args meth c cc nL own ret D cy g A) {Cn : String} {T : u_T} {N ci index : Nat} (hin : ∀ w ∈ u_ws Cn T N, w ∈ wsG) (hc : vwCl[ci]? = some (Cn, T, N)) {a : Nat} (ha : a ∈ gL g) {fs : List Value} (he : pF cy g V a = .inr (ci, fs)) (k : Nat) (hk : k < N) (hlink : Cond.fieldLink own index (T k).1 (T k).2.1 (T k).2.2.1 ∈ wsG) {v : Value} (hv : fs[k]? = some v) (hd : decode cc pc = .ok (.getfield index, 3)) (kk : G p l e R s m args below meth c nL cells slots Q D cy g A H0 V (pc + 3) lv (v :: st)) : G p l e R s m args below meth c nL cells slots Q D cy g A H0 V pc lv (.ref a :: st) := by
  intro H locs ls hP hS hl
  obtain ⟨q0, hq0⟩ := pw_at (cy := cy) (V := V) ha
  rw [he] at hq0
  exact va_get C.1.1 C.1.2.1 C.1.2.2.2.2 hin C.1.2.2.2.1 C.2.1 hP q0 hq0 hc k hk (C.1.2.2.2.2 _ hlink) (fun _ h => h) hv hd (kk H locs ls hP hS hl)
theorem g_put (C : Cx p s m args meth c cc nL own ret D cy g A) {Cn : String} {T : u_T} {N ci index : Nat} (hin : ∀ w ∈ u_ws Cn T N, w ∈ wsG) (ty0 : Nat → FieldType) (hty : ∀ k, k < N → parseFieldDescriptor (T k).2.2.1 = some (ty0 k)) (hnm : ∀ a, a < N → ∀ b, b < N → a ≠ b → (T a).2.1 ≠ (T b).2.1) (hc : vwCl[ci]? = some (Cn, T, N)) {a : Nat} (ha : a ∈ gL g) {fs : List Value} (he : pF cy g V a = .inr (ci, fs)) (k : Nat) (hk : k < N) (hlink : Cond.fieldLink own index (T k).1 (T k).2.1 (T k).2.2.1 ∈ wsG) (hfin : (T k).2.2.2 = false) {ty : FieldType} {v j : Int} (hdty : parseFieldDescriptor (T k).2.2.1 = some ty) (hn : narrow ty (vI v) = vI v) (hfit : fits ty (vI v) = true) (hlen : k < fs.length) (he2 : pF cy g (up V (gO g a) (gT g a) j v) a = .inr (ci, fs.set k (vI v))) (hd : decode cc pc = .ok (.putfield index, 3)) (kk : G p l e R s m args below meth c nL cells slots Q D cy g A H0 (up V (gO g a) (gT g a) j v) (pc + 3) lv st) : G p l e R s m args below meth c nL cells slots Q D cy g A H0 V pc lv (vI v :: .ref a :: st) := by
  intro H locs ls hP hS hl
  obtain ⟨q0, hq0⟩ := pw_at (cy := cy) (V := V) ha
  have hset := pw_set (e := .inr (ci, fs.set k (vI v))) C.2.2.2.1 C.2.2.2.2.1 ha hq0 he2
  rw [he] at hq0
  refine va_put C.1.1 C.1.2.1 C.1.2.2.2.2 hin ty0 hty hnm C.1.2.2.2.1 C.2.1 hP (pw_D C.2.2.2.1 C.2.2.2.2.1) hS q0 hq0 hc k hk (C.1.2.2.2.2 _ hlink) (fun _ h => h) hfin hdty hn hfit hlen hd (fun H1 locs1 hP1 _ hS1 => ?_)
  rw [hset] at hP1
  exact kk H1 locs1 ls hP1 hS1 hl
theorem g_getN (C : Cx p s m args meth c cc nL own ret D cy g A) {Cn host : String} {T : u_T} {N ci index : Nat} (hin : ∀ w ∈ u_ws Cn T N, w ∈ wsG) (hc : vwCl[ci]? = some (Cn, T, N)) {a : Nat} (ha : a ∈ gL g) {fs : List Value} (he : pF cy g V a = .inr (ci, fs)) (k : Nat) (hk : k < N) (hlink : Cond.fieldLinkNest own index (T k).1 (T k).2.1 (T k).2.2.1 host ∈ nestL) {v : Value} (hv : fs[k]? = some v) (hd : decode cc pc = .ok (.getfield index, 3)) (kk : G p l e R s m args below meth c nL cells slots Q D cy g A H0 V (pc + 3) lv (v :: st)) : G p l e R s m args below meth c nL cells slots Q D cy g A H0 V pc lv (.ref a :: st) := by
  intro H locs ls hP hS hl
  obtain ⟨q0, hq0⟩ := pw_at (cy := cy) (V := V) ha
  rw [he] at hq0
  exact va_getN C.1.1 C.1.2.1 C.1.2.2.2.2 hin C.1.2.2.2.1 C.2.1 hP q0 hq0 hc k hk (va_Nw.use rfl (C.2.2.1 _ hlink)) (fun _ h => h) hv hd (kk H locs ls hP hS hl)
theorem g_putN (C : Cx p s m args meth c cc nL own ret D cy g A) {Cn host : String} {T : u_T} {N ci index : Nat} (hin : ∀ w ∈ u_ws Cn T N, w ∈ wsG) (ty0 : Nat → FieldType) (hty : ∀ k, k < N → parseFieldDescriptor (T k).2.2.1 = some (ty0 k)) (hnm : ∀ a, a < N → ∀ b, b < N → a ≠ b → (T a).2.1 ≠ (T b).2.1) (hc : vwCl[ci]? = some (Cn, T, N)) {a : Nat} (ha : a ∈ gL g) {fs : List Value} (he : pF cy g V a = .inr (ci, fs)) (k : Nat) (hk : k < N) (hlink : Cond.fieldLinkNest own index (T k).1 (T k).2.1 (T k).2.2.1 host ∈ nestL) (hfin : (T k).2.2.2 = false) {ty : FieldType} {v j : Int} (hdty : parseFieldDescriptor (T k).2.2.1 = some ty) (hn : narrow ty (vI v) = vI v) (hfit : fits ty (vI v) = true) (hlen : k < fs.length) (he2 : pF cy g (up V (gO g a) (gT g a) j v) a = .inr (ci, fs.set k (vI v))) (hd : decode cc pc = .ok (.putfield index, 3)) (kk : G p l e R s m args below meth c nL cells slots Q D cy g A H0 (up V (gO g a) (gT g a) j v) (pc + 3) lv st) : G p l e R s m args below meth c nL cells slots Q D cy g A H0 V pc lv (vI v :: .ref a :: st) := by
  intro H locs ls hP hS hl
  obtain ⟨q0, hq0⟩ := pw_at (cy := cy) (V := V) ha
  have hset := pw_set (e := .inr (ci, fs.set k (vI v))) C.2.2.2.1 C.2.2.2.2.1 ha hq0 he2
  rw [he] at hq0
  refine va_putN C.1.1 C.1.2.1 C.1.2.2.2.2 hin ty0 hty hnm C.1.2.2.2.1 C.2.1 hP (pw_D C.2.2.2.1 C.2.2.2.2.1) hS q0 hq0 hc k hk (va_Nw.use rfl (C.2.2.1 _ hlink)) (fun _ h => h) hfin hdty hn hfit hlen hd (fun H1 locs1 hP1 _ hS1 => ?_)
  rw [hset] at hP1
  exact kk H1 locs1 ls hP1 hS1 hl
def isO (g : GT) (ci a : Nat) (o : Int) : Prop := a ∈ gL g ∧ gK g a = ci ∧ gO g a = o ∧ gT g a = 0
def isA (g : GT) (a : Nat) (o t : Int) (n : Nat) : Prop := a ∈ gL g ∧ gK g a = 5 ∧ gO g a = o ∧ gT g a = t ∧ gN g a = n
def isQ (g : GT) (a : Nat) (n : Nat) : Prop := a ∈ gL g ∧ gK g a = 6 ∧ gN g a = n
theorem g_iald (C : Cx p s m args meth c cc nL own ret D cy g A) {a : Nat} {o t i : Int} {n : Nat} (ha : isA g a o t n) (hi : 0 ≤ i ∧ i < n) (hn : n < 2147483648) (hd : decode cc pc = .ok (.iaload, 1)) (kk : G p l e R s m args below meth c nL cells slots Q D cy g A H0 V (pc + 1) lv (vI (V o t i) :: st)) : G p l e R s m args below meth c nL cells slots Q D cy g A H0 V pc lv (vI i :: .ref a :: st) := by
  intro H locs ls hP hS hl
  obtain ⟨h1, h2, h3, h4, h5⟩ := ha
  have hr : rng i := ⟨by omega, by omega⟩
  obtain ⟨q0, hq0⟩ := pw_at (cy := cy) (V := V) h1
  have he : pF cy g V a = .inl (cy.1, n, .inl (fun k => iI (V o t k))) := by simp [pF, h2, h3, h4, h5]
  rw [he] at hq0
  refine va_iald C.1.1 C.1.2.1 C.2.1 hP q0 0 hq0 rfl (iI_in hi.1 hi.2 hr) hd ?_
  rw [iI_clamp hi.1 hr, Int.toNat_of_nonneg hi.1]
  exact kk H locs ls hP hS hl
theorem g_iast (C : Cx p s m args meth c cc nL own ret D cy g A) {a : Nat} {o t i v : Int} {n : Nat} (ha : isA g a o t n) (hi : 0 ≤ i ∧ i < n) (hn : n < 2147483648) (hd : decode cc pc = .ok (.iastore, 1)) (kk : G p l e R s m args below meth c nL cells slots Q D cy g A H0 (up V o t i v) (pc + 1) lv st) : G p l e R s m args below meth c nL cells slots Q D cy g A H0 V pc lv (vI v :: vI i :: .ref a :: st) := by
  intro H locs ls hP hS hl
  obtain ⟨h1, h2, h3, h4, h5⟩ := ha
  have hr : rng i := ⟨by omega, by omega⟩
  obtain ⟨q0, hq0⟩ := pw_at (cy := cy) (V := V) h1
  have he : pF cy g V a = .inl (cy.1, n, .inl (fun k => iI (V o t k))) := by simp [pF, h2, h3, h4, h5]
  have he2 : pF cy g (up V (gO g a) (gT g a) i v) a = .inl (cy.1, n, .inl (upd (fun k => iI (V o t k)) (iI i).toNatClampNeg (iI v))) := by
    rw [iI_clamp hi.1 hr]
    simp only [pF, h2, h3, h4, h5]
    simp only [if_neg (show ¬ (5 : Nat) = 0 by decide), if_neg (show ¬ (5 : Nat) = 1 by decide), if_neg (show ¬ (5 : Nat) = 2 by decide), if_neg (show ¬ (5 : Nat) = 3 by decide), if_neg (show ¬ (5 : Nat) = 4 by decide), if_true]
    congr 4
    funext k
    unfold upd up
    by_cases hk : k = i.toNat
    · rw [if_pos hk, if_pos ⟨rfl, rfl, by omega⟩]
    · rw [if_neg hk, if_neg (fun h => hk (by omega))]
  have hset := pw_set C.2.2.2.1 C.2.2.2.2.1 h1 hq0 he2
  rw [he] at hq0
  refine va_iast C.1.1 C.1.2.1 C.2.1 hP (pw_D C.2.2.2.1 C.2.2.2.2.1) hS q0 0 hq0 rfl (iI_in hi.1 hi.2 hr) hd (fun H1 locs1 hP1 _ hS1 => ?_)
  rw [hset, h3, h4] at hP1
  exact kk H1 locs1 ls hP1 hS1 hl
theorem g_aald (C : Cx p s m args meth c cc nL own ret D cy g A) {a b : Nat} {i : Int} {n : Nat} (ha : isQ g a n) (hi : 0 ≤ i ∧ i < n) (hn : n < 2147483648) (hb : gR g a i.toNat = some b) (hd : decode cc pc = .ok (.aaload, 1)) (kk : G p l e R s m args below meth c nL cells slots Q D cy g A H0 V (pc + 1) lv (.ref b :: st)) : G p l e R s m args below meth c nL cells slots Q D cy g A H0 V pc lv (vI i :: .ref a :: st) := by
  intro H locs ls hP hS hl
  obtain ⟨h1, h2, h5⟩ := ha
  have hr : rng i := ⟨by omega, by omega⟩
  obtain ⟨q0, hq0⟩ := pw_at (cy := cy) (V := V) h1
  have he : pF cy g V a = .inl (cy.2, n, .inr (.inr (.inr (.inr (gR g a))))) := by simp [pF, h2, h5]
  rw [he] at hq0
  refine va_aldq C.1.1 C.1.2.1 C.2.1 hP q0 1 hq0 rfl (iI_in hi.1 hi.2 hr) hd ?_
  rw [iI_clamp hi.1 hr, hb]
  exact kk H locs ls hP hS hl
theorem in_Log : ∀ w ∈ u_ws RX0 TX0 4, w ∈ wsG := by
  intro w hw
  refine List.mem_filter.mpr ⟨?_, ?_⟩
  · exact (show ∀ w ∈ u_ws RX0 TX0 4, w ∈ lw_tbl by decide +kernel) w hw
  · exact (show ∀ w ∈ u_ws RX0 TX0 4, goodWord w = true by decide +kernel) w hw
theorem pF_Log {a : Nat} {o : Int} (h : isO g 0 a o) (V : VT) : pF cy g V a = .inr (0, [va_rf (gR g a 0), va_rf (gR g a 1), va_rf (gR g a 2), vI (V o 0 3)]) := by
  obtain ⟨h1, h2, h3, h4⟩ := h
  simp [pF, h2, h3, h4]
theorem gf_Log_records (C : Cx p s m args meth c cc nL own ret D cy g A) {index a b : Nat} {o : Int} (h : isO g 0 a o) (hb : gR g a 0 = some b) (hlink : Cond.fieldLink own index "SlotFile$Log" "records" "[I" ∈ wsG) (hd : decode cc pc = .ok (.getfield index, 3)) (kk : G p l e R s m args below meth c nL cells slots Q D cy g A H0 V (pc + 3) lv (.ref b :: st)) : G p l e R s m args below meth c nL cells slots Q D cy g A H0 V pc lv (.ref a :: st) :=
  g_get (Cn := RX0) (T := TX0) (N := 4) C in_Log rfl h.1 (pF_Log h V) 0 (by decide) hlink (v := .ref b) (by simp [hb, va_rf]) hd kk
theorem gfN_Log_records (C : Cx p s m args meth c cc nL own ret D cy g A) {index a b : Nat} {o : Int} (h : isO g 0 a o) (hb : gR g a 0 = some b) (hlink : Cond.fieldLinkNest own index "SlotFile$Log" "records" "[I" "SlotFile" ∈ nestL) (hd : decode cc pc = .ok (.getfield index, 3)) (kk : G p l e R s m args below meth c nL cells slots Q D cy g A H0 V (pc + 3) lv (.ref b :: st)) : G p l e R s m args below meth c nL cells slots Q D cy g A H0 V pc lv (.ref a :: st) :=
  g_getN (Cn := RX0) (T := TX0) (N := 4) C in_Log rfl h.1 (pF_Log h V) 0 (by decide) hlink (v := .ref b) (by simp [hb, va_rf]) hd kk
theorem gf_Log_lengths (C : Cx p s m args meth c cc nL own ret D cy g A) {index a b : Nat} {o : Int} (h : isO g 0 a o) (hb : gR g a 1 = some b) (hlink : Cond.fieldLink own index "SlotFile$Log" "lengths" "[I" ∈ wsG) (hd : decode cc pc = .ok (.getfield index, 3)) (kk : G p l e R s m args below meth c nL cells slots Q D cy g A H0 V (pc + 3) lv (.ref b :: st)) : G p l e R s m args below meth c nL cells slots Q D cy g A H0 V pc lv (.ref a :: st) :=
  g_get (Cn := RX0) (T := TX0) (N := 4) C in_Log rfl h.1 (pF_Log h V) 1 (by decide) hlink (v := .ref b) (by simp [hb, va_rf]) hd kk
theorem gfN_Log_lengths (C : Cx p s m args meth c cc nL own ret D cy g A) {index a b : Nat} {o : Int} (h : isO g 0 a o) (hb : gR g a 1 = some b) (hlink : Cond.fieldLinkNest own index "SlotFile$Log" "lengths" "[I" "SlotFile" ∈ nestL) (hd : decode cc pc = .ok (.getfield index, 3)) (kk : G p l e R s m args below meth c nL cells slots Q D cy g A H0 V (pc + 3) lv (.ref b :: st)) : G p l e R s m args below meth c nL cells slots Q D cy g A H0 V pc lv (.ref a :: st) :=
  g_getN (Cn := RX0) (T := TX0) (N := 4) C in_Log rfl h.1 (pF_Log h V) 1 (by decide) hlink (v := .ref b) (by simp [hb, va_rf]) hd kk
theorem gf_Log_seeds (C : Cx p s m args meth c cc nL own ret D cy g A) {index a b : Nat} {o : Int} (h : isO g 0 a o) (hb : gR g a 2 = some b) (hlink : Cond.fieldLink own index "SlotFile$Log" "seeds" "[I" ∈ wsG) (hd : decode cc pc = .ok (.getfield index, 3)) (kk : G p l e R s m args below meth c nL cells slots Q D cy g A H0 V (pc + 3) lv (.ref b :: st)) : G p l e R s m args below meth c nL cells slots Q D cy g A H0 V pc lv (.ref a :: st) :=
  g_get (Cn := RX0) (T := TX0) (N := 4) C in_Log rfl h.1 (pF_Log h V) 2 (by decide) hlink (v := .ref b) (by simp [hb, va_rf]) hd kk
theorem gfN_Log_seeds (C : Cx p s m args meth c cc nL own ret D cy g A) {index a b : Nat} {o : Int} (h : isO g 0 a o) (hb : gR g a 2 = some b) (hlink : Cond.fieldLinkNest own index "SlotFile$Log" "seeds" "[I" "SlotFile" ∈ nestL) (hd : decode cc pc = .ok (.getfield index, 3)) (kk : G p l e R s m args below meth c nL cells slots Q D cy g A H0 V (pc + 3) lv (.ref b :: st)) : G p l e R s m args below meth c nL cells slots Q D cy g A H0 V pc lv (.ref a :: st) :=
  g_getN (Cn := RX0) (T := TX0) (N := 4) C in_Log rfl h.1 (pF_Log h V) 2 (by decide) hlink (v := .ref b) (by simp [hb, va_rf]) hd kk
theorem gf_Log_size (C : Cx p s m args meth c cc nL own ret D cy g A) {index a : Nat} {o : Int} (h : isO g 0 a o) (hlink : Cond.fieldLink own index "SlotFile$Log" "size" "I" ∈ wsG) (hd : decode cc pc = .ok (.getfield index, 3)) (kk : G p l e R s m args below meth c nL cells slots Q D cy g A H0 V (pc + 3) lv (vI (V o 0 3) :: st)) : G p l e R s m args below meth c nL cells slots Q D cy g A H0 V pc lv (.ref a :: st) :=
  g_get (Cn := RX0) (T := TX0) (N := 4) C in_Log rfl h.1 (pF_Log h V) 3 (by decide) hlink (v := vI (V o 0 3)) rfl hd kk
theorem gp_Log_size (C : Cx p s m args meth c cc nL own ret D cy g A) {index a : Nat} {o v : Int} (h : isO g 0 a o) (hlink : Cond.fieldLink own index "SlotFile$Log" "size" "I" ∈ wsG) (hd : decode cc pc = .ok (.putfield index, 3)) (kk : G p l e R s m args below meth c nL cells slots Q D cy g A H0 (up V o 0 3 v) (pc + 3) lv st) : G p l e R s m args below meth c nL cells slots Q D cy g A H0 V pc lv (vI v :: .ref a :: st) := by
  refine g_put (Cn := RX0) (T := TX0) (N := 4) (ty := .int) (j := 3) C in_Log tyX0 tyX0_ok nmX0 rfl h.1 (pF_Log h V) 3 (by decide) hlink rfl (by decide +kernel) rfl rfl (Nat.le_of_ble_eq_true rfl) ?_ hd ?_
  · rw [h.2.2.1, h.2.2.2, pF_Log h]
    simp [up, List.set]
  · rw [h.2.2.1, h.2.2.2]
    exact kk
theorem gfN_Log_size (C : Cx p s m args meth c cc nL own ret D cy g A) {index a : Nat} {o : Int} (h : isO g 0 a o) (hlink : Cond.fieldLinkNest own index "SlotFile$Log" "size" "I" "SlotFile" ∈ nestL) (hd : decode cc pc = .ok (.getfield index, 3)) (kk : G p l e R s m args below meth c nL cells slots Q D cy g A H0 V (pc + 3) lv (vI (V o 0 3) :: st)) : G p l e R s m args below meth c nL cells slots Q D cy g A H0 V pc lv (.ref a :: st) :=
  g_getN (Cn := RX0) (T := TX0) (N := 4) C in_Log rfl h.1 (pF_Log h V) 3 (by decide) hlink (v := vI (V o 0 3)) rfl hd kk
theorem gpN_Log_size (C : Cx p s m args meth c cc nL own ret D cy g A) {index a : Nat} {o v : Int} (h : isO g 0 a o) (hlink : Cond.fieldLinkNest own index "SlotFile$Log" "size" "I" "SlotFile" ∈ nestL) (hd : decode cc pc = .ok (.putfield index, 3)) (kk : G p l e R s m args below meth c nL cells slots Q D cy g A H0 (up V o 0 3 v) (pc + 3) lv st) : G p l e R s m args below meth c nL cells slots Q D cy g A H0 V pc lv (vI v :: .ref a :: st) := by
  refine g_putN (Cn := RX0) (T := TX0) (N := 4) (ty := .int) (j := 3) C in_Log tyX0 tyX0_ok nmX0 rfl h.1 (pF_Log h V) 3 (by decide) hlink rfl (by decide +kernel) rfl rfl (Nat.le_of_ble_eq_true rfl) ?_ hd ?_
  · rw [h.2.2.1, h.2.2.2, pF_Log h]
    simp [up, List.set]
  · rw [h.2.2.1, h.2.2.2]
    exact kk
theorem in_Page : ∀ w ∈ u_ws RX1 TX1 13, w ∈ wsG := by
  intro w hw
  refine List.mem_filter.mpr ⟨?_, ?_⟩
  · exact (show ∀ w ∈ u_ws RX1 TX1 13, w ∈ lw_tbl by decide +kernel) w hw
  · exact (show ∀ w ∈ u_ws RX1 TX1 13, goodWord w = true by decide +kernel) w hw
theorem pF_Page {a : Nat} {o : Int} (h : isO g 1 a o) (V : VT) : pF cy g V a = .inr (1, [vI (V o 0 0), vI (V o 0 1), vI (V o 0 2), vI (V o 0 3), vI (V o 0 4), vI (V o 0 5), vI (V o 0 6), vI (V o 0 7), vI (V o 0 8), va_rf (gR g a 9), va_rf (gR g a 10), va_rf (gR g a 11), va_rf (gR g a 12)]) := by
  obtain ⟨h1, h2, h3, h4⟩ := h
  simp [pF, h2, h3, h4]
theorem gf_Page_kind (C : Cx p s m args meth c cc nL own ret D cy g A) {index a : Nat} {o : Int} (h : isO g 1 a o) (hlink : Cond.fieldLink own index "SlotFile$Page" "kind" "I" ∈ wsG) (hd : decode cc pc = .ok (.getfield index, 3)) (kk : G p l e R s m args below meth c nL cells slots Q D cy g A H0 V (pc + 3) lv (vI (V o 0 0) :: st)) : G p l e R s m args below meth c nL cells slots Q D cy g A H0 V pc lv (.ref a :: st) :=
  g_get (Cn := RX1) (T := TX1) (N := 13) C in_Page rfl h.1 (pF_Page h V) 0 (by decide) hlink (v := vI (V o 0 0)) rfl hd kk
theorem gp_Page_kind (C : Cx p s m args meth c cc nL own ret D cy g A) {index a : Nat} {o v : Int} (h : isO g 1 a o) (hlink : Cond.fieldLink own index "SlotFile$Page" "kind" "I" ∈ wsG) (hd : decode cc pc = .ok (.putfield index, 3)) (kk : G p l e R s m args below meth c nL cells slots Q D cy g A H0 (up V o 0 0 v) (pc + 3) lv st) : G p l e R s m args below meth c nL cells slots Q D cy g A H0 V pc lv (vI v :: .ref a :: st) := by
  refine g_put (Cn := RX1) (T := TX1) (N := 13) (ty := .int) (j := 0) C in_Page tyX1 tyX1_ok nmX1 rfl h.1 (pF_Page h V) 0 (by decide) hlink rfl (by decide +kernel) rfl rfl (Nat.le_of_ble_eq_true rfl) ?_ hd ?_
  · rw [h.2.2.1, h.2.2.2, pF_Page h]
    simp [up, List.set]
  · rw [h.2.2.1, h.2.2.2]
    exact kk
theorem gfN_Page_kind (C : Cx p s m args meth c cc nL own ret D cy g A) {index a : Nat} {o : Int} (h : isO g 1 a o) (hlink : Cond.fieldLinkNest own index "SlotFile$Page" "kind" "I" "SlotFile" ∈ nestL) (hd : decode cc pc = .ok (.getfield index, 3)) (kk : G p l e R s m args below meth c nL cells slots Q D cy g A H0 V (pc + 3) lv (vI (V o 0 0) :: st)) : G p l e R s m args below meth c nL cells slots Q D cy g A H0 V pc lv (.ref a :: st) :=
  g_getN (Cn := RX1) (T := TX1) (N := 13) C in_Page rfl h.1 (pF_Page h V) 0 (by decide) hlink (v := vI (V o 0 0)) rfl hd kk
theorem gpN_Page_kind (C : Cx p s m args meth c cc nL own ret D cy g A) {index a : Nat} {o v : Int} (h : isO g 1 a o) (hlink : Cond.fieldLinkNest own index "SlotFile$Page" "kind" "I" "SlotFile" ∈ nestL) (hd : decode cc pc = .ok (.putfield index, 3)) (kk : G p l e R s m args below meth c nL cells slots Q D cy g A H0 (up V o 0 0 v) (pc + 3) lv st) : G p l e R s m args below meth c nL cells slots Q D cy g A H0 V pc lv (vI v :: .ref a :: st) := by
  refine g_putN (Cn := RX1) (T := TX1) (N := 13) (ty := .int) (j := 0) C in_Page tyX1 tyX1_ok nmX1 rfl h.1 (pF_Page h V) 0 (by decide) hlink rfl (by decide +kernel) rfl rfl (Nat.le_of_ble_eq_true rfl) ?_ hd ?_
  · rw [h.2.2.1, h.2.2.2, pF_Page h]
    simp [up, List.set]
  · rw [h.2.2.1, h.2.2.2]
    exact kk
theorem gf_Page_slots (C : Cx p s m args meth c cc nL own ret D cy g A) {index a : Nat} {o : Int} (h : isO g 1 a o) (hlink : Cond.fieldLink own index "SlotFile$Page" "slots" "I" ∈ wsG) (hd : decode cc pc = .ok (.getfield index, 3)) (kk : G p l e R s m args below meth c nL cells slots Q D cy g A H0 V (pc + 3) lv (vI (V o 0 1) :: st)) : G p l e R s m args below meth c nL cells slots Q D cy g A H0 V pc lv (.ref a :: st) :=
  g_get (Cn := RX1) (T := TX1) (N := 13) C in_Page rfl h.1 (pF_Page h V) 1 (by decide) hlink (v := vI (V o 0 1)) rfl hd kk
theorem gp_Page_slots (C : Cx p s m args meth c cc nL own ret D cy g A) {index a : Nat} {o v : Int} (h : isO g 1 a o) (hlink : Cond.fieldLink own index "SlotFile$Page" "slots" "I" ∈ wsG) (hd : decode cc pc = .ok (.putfield index, 3)) (kk : G p l e R s m args below meth c nL cells slots Q D cy g A H0 (up V o 0 1 v) (pc + 3) lv st) : G p l e R s m args below meth c nL cells slots Q D cy g A H0 V pc lv (vI v :: .ref a :: st) := by
  refine g_put (Cn := RX1) (T := TX1) (N := 13) (ty := .int) (j := 1) C in_Page tyX1 tyX1_ok nmX1 rfl h.1 (pF_Page h V) 1 (by decide) hlink rfl (by decide +kernel) rfl rfl (Nat.le_of_ble_eq_true rfl) ?_ hd ?_
  · rw [h.2.2.1, h.2.2.2, pF_Page h]
    simp [up, List.set]
  · rw [h.2.2.1, h.2.2.2]
    exact kk
theorem gfN_Page_slots (C : Cx p s m args meth c cc nL own ret D cy g A) {index a : Nat} {o : Int} (h : isO g 1 a o) (hlink : Cond.fieldLinkNest own index "SlotFile$Page" "slots" "I" "SlotFile" ∈ nestL) (hd : decode cc pc = .ok (.getfield index, 3)) (kk : G p l e R s m args below meth c nL cells slots Q D cy g A H0 V (pc + 3) lv (vI (V o 0 1) :: st)) : G p l e R s m args below meth c nL cells slots Q D cy g A H0 V pc lv (.ref a :: st) :=
  g_getN (Cn := RX1) (T := TX1) (N := 13) C in_Page rfl h.1 (pF_Page h V) 1 (by decide) hlink (v := vI (V o 0 1)) rfl hd kk
theorem gpN_Page_slots (C : Cx p s m args meth c cc nL own ret D cy g A) {index a : Nat} {o v : Int} (h : isO g 1 a o) (hlink : Cond.fieldLinkNest own index "SlotFile$Page" "slots" "I" "SlotFile" ∈ nestL) (hd : decode cc pc = .ok (.putfield index, 3)) (kk : G p l e R s m args below meth c nL cells slots Q D cy g A H0 (up V o 0 1 v) (pc + 3) lv st) : G p l e R s m args below meth c nL cells slots Q D cy g A H0 V pc lv (vI v :: .ref a :: st) := by
  refine g_putN (Cn := RX1) (T := TX1) (N := 13) (ty := .int) (j := 1) C in_Page tyX1 tyX1_ok nmX1 rfl h.1 (pF_Page h V) 1 (by decide) hlink rfl (by decide +kernel) rfl rfl (Nat.le_of_ble_eq_true rfl) ?_ hd ?_
  · rw [h.2.2.1, h.2.2.2, pF_Page h]
    simp [up, List.set]
  · rw [h.2.2.1, h.2.2.2]
    exact kk
theorem gf_Page_cells (C : Cx p s m args meth c cc nL own ret D cy g A) {index a : Nat} {o : Int} (h : isO g 1 a o) (hlink : Cond.fieldLink own index "SlotFile$Page" "cells" "I" ∈ wsG) (hd : decode cc pc = .ok (.getfield index, 3)) (kk : G p l e R s m args below meth c nL cells slots Q D cy g A H0 V (pc + 3) lv (vI (V o 0 2) :: st)) : G p l e R s m args below meth c nL cells slots Q D cy g A H0 V pc lv (.ref a :: st) :=
  g_get (Cn := RX1) (T := TX1) (N := 13) C in_Page rfl h.1 (pF_Page h V) 2 (by decide) hlink (v := vI (V o 0 2)) rfl hd kk
theorem gp_Page_cells (C : Cx p s m args meth c cc nL own ret D cy g A) {index a : Nat} {o v : Int} (h : isO g 1 a o) (hlink : Cond.fieldLink own index "SlotFile$Page" "cells" "I" ∈ wsG) (hd : decode cc pc = .ok (.putfield index, 3)) (kk : G p l e R s m args below meth c nL cells slots Q D cy g A H0 (up V o 0 2 v) (pc + 3) lv st) : G p l e R s m args below meth c nL cells slots Q D cy g A H0 V pc lv (vI v :: .ref a :: st) := by
  refine g_put (Cn := RX1) (T := TX1) (N := 13) (ty := .int) (j := 2) C in_Page tyX1 tyX1_ok nmX1 rfl h.1 (pF_Page h V) 2 (by decide) hlink rfl (by decide +kernel) rfl rfl (Nat.le_of_ble_eq_true rfl) ?_ hd ?_
  · rw [h.2.2.1, h.2.2.2, pF_Page h]
    simp [up, List.set]
  · rw [h.2.2.1, h.2.2.2]
    exact kk
theorem gfN_Page_cells (C : Cx p s m args meth c cc nL own ret D cy g A) {index a : Nat} {o : Int} (h : isO g 1 a o) (hlink : Cond.fieldLinkNest own index "SlotFile$Page" "cells" "I" "SlotFile" ∈ nestL) (hd : decode cc pc = .ok (.getfield index, 3)) (kk : G p l e R s m args below meth c nL cells slots Q D cy g A H0 V (pc + 3) lv (vI (V o 0 2) :: st)) : G p l e R s m args below meth c nL cells slots Q D cy g A H0 V pc lv (.ref a :: st) :=
  g_getN (Cn := RX1) (T := TX1) (N := 13) C in_Page rfl h.1 (pF_Page h V) 2 (by decide) hlink (v := vI (V o 0 2)) rfl hd kk
theorem gpN_Page_cells (C : Cx p s m args meth c cc nL own ret D cy g A) {index a : Nat} {o v : Int} (h : isO g 1 a o) (hlink : Cond.fieldLinkNest own index "SlotFile$Page" "cells" "I" "SlotFile" ∈ nestL) (hd : decode cc pc = .ok (.putfield index, 3)) (kk : G p l e R s m args below meth c nL cells slots Q D cy g A H0 (up V o 0 2 v) (pc + 3) lv st) : G p l e R s m args below meth c nL cells slots Q D cy g A H0 V pc lv (vI v :: .ref a :: st) := by
  refine g_putN (Cn := RX1) (T := TX1) (N := 13) (ty := .int) (j := 2) C in_Page tyX1 tyX1_ok nmX1 rfl h.1 (pF_Page h V) 2 (by decide) hlink rfl (by decide +kernel) rfl rfl (Nat.le_of_ble_eq_true rfl) ?_ hd ?_
  · rw [h.2.2.1, h.2.2.2, pF_Page h]
    simp [up, List.set]
  · rw [h.2.2.1, h.2.2.2]
    exact kk
theorem gf_Page_stubs (C : Cx p s m args meth c cc nL own ret D cy g A) {index a : Nat} {o : Int} (h : isO g 1 a o) (hlink : Cond.fieldLink own index "SlotFile$Page" "stubs" "I" ∈ wsG) (hd : decode cc pc = .ok (.getfield index, 3)) (kk : G p l e R s m args below meth c nL cells slots Q D cy g A H0 V (pc + 3) lv (vI (V o 0 3) :: st)) : G p l e R s m args below meth c nL cells slots Q D cy g A H0 V pc lv (.ref a :: st) :=
  g_get (Cn := RX1) (T := TX1) (N := 13) C in_Page rfl h.1 (pF_Page h V) 3 (by decide) hlink (v := vI (V o 0 3)) rfl hd kk
theorem gp_Page_stubs (C : Cx p s m args meth c cc nL own ret D cy g A) {index a : Nat} {o v : Int} (h : isO g 1 a o) (hlink : Cond.fieldLink own index "SlotFile$Page" "stubs" "I" ∈ wsG) (hd : decode cc pc = .ok (.putfield index, 3)) (kk : G p l e R s m args below meth c nL cells slots Q D cy g A H0 (up V o 0 3 v) (pc + 3) lv st) : G p l e R s m args below meth c nL cells slots Q D cy g A H0 V pc lv (vI v :: .ref a :: st) := by
  refine g_put (Cn := RX1) (T := TX1) (N := 13) (ty := .int) (j := 3) C in_Page tyX1 tyX1_ok nmX1 rfl h.1 (pF_Page h V) 3 (by decide) hlink rfl (by decide +kernel) rfl rfl (Nat.le_of_ble_eq_true rfl) ?_ hd ?_
  · rw [h.2.2.1, h.2.2.2, pF_Page h]
    simp [up, List.set]
  · rw [h.2.2.1, h.2.2.2]
    exact kk
theorem gfN_Page_stubs (C : Cx p s m args meth c cc nL own ret D cy g A) {index a : Nat} {o : Int} (h : isO g 1 a o) (hlink : Cond.fieldLinkNest own index "SlotFile$Page" "stubs" "I" "SlotFile" ∈ nestL) (hd : decode cc pc = .ok (.getfield index, 3)) (kk : G p l e R s m args below meth c nL cells slots Q D cy g A H0 V (pc + 3) lv (vI (V o 0 3) :: st)) : G p l e R s m args below meth c nL cells slots Q D cy g A H0 V pc lv (.ref a :: st) :=
  g_getN (Cn := RX1) (T := TX1) (N := 13) C in_Page rfl h.1 (pF_Page h V) 3 (by decide) hlink (v := vI (V o 0 3)) rfl hd kk
theorem gpN_Page_stubs (C : Cx p s m args meth c cc nL own ret D cy g A) {index a : Nat} {o v : Int} (h : isO g 1 a o) (hlink : Cond.fieldLinkNest own index "SlotFile$Page" "stubs" "I" "SlotFile" ∈ nestL) (hd : decode cc pc = .ok (.putfield index, 3)) (kk : G p l e R s m args below meth c nL cells slots Q D cy g A H0 (up V o 0 3 v) (pc + 3) lv st) : G p l e R s m args below meth c nL cells slots Q D cy g A H0 V pc lv (vI v :: .ref a :: st) := by
  refine g_putN (Cn := RX1) (T := TX1) (N := 13) (ty := .int) (j := 3) C in_Page tyX1 tyX1_ok nmX1 rfl h.1 (pF_Page h V) 3 (by decide) hlink rfl (by decide +kernel) rfl rfl (Nat.le_of_ble_eq_true rfl) ?_ hd ?_
  · rw [h.2.2.1, h.2.2.2, pF_Page h]
    simp [up, List.set]
  · rw [h.2.2.1, h.2.2.2]
    exact kk
theorem gf_Page_used (C : Cx p s m args meth c cc nL own ret D cy g A) {index a : Nat} {o : Int} (h : isO g 1 a o) (hlink : Cond.fieldLink own index "SlotFile$Page" "used" "I" ∈ wsG) (hd : decode cc pc = .ok (.getfield index, 3)) (kk : G p l e R s m args below meth c nL cells slots Q D cy g A H0 V (pc + 3) lv (vI (V o 0 4) :: st)) : G p l e R s m args below meth c nL cells slots Q D cy g A H0 V pc lv (.ref a :: st) :=
  g_get (Cn := RX1) (T := TX1) (N := 13) C in_Page rfl h.1 (pF_Page h V) 4 (by decide) hlink (v := vI (V o 0 4)) rfl hd kk
theorem gp_Page_used (C : Cx p s m args meth c cc nL own ret D cy g A) {index a : Nat} {o v : Int} (h : isO g 1 a o) (hlink : Cond.fieldLink own index "SlotFile$Page" "used" "I" ∈ wsG) (hd : decode cc pc = .ok (.putfield index, 3)) (kk : G p l e R s m args below meth c nL cells slots Q D cy g A H0 (up V o 0 4 v) (pc + 3) lv st) : G p l e R s m args below meth c nL cells slots Q D cy g A H0 V pc lv (vI v :: .ref a :: st) := by
  refine g_put (Cn := RX1) (T := TX1) (N := 13) (ty := .int) (j := 4) C in_Page tyX1 tyX1_ok nmX1 rfl h.1 (pF_Page h V) 4 (by decide) hlink rfl (by decide +kernel) rfl rfl (Nat.le_of_ble_eq_true rfl) ?_ hd ?_
  · rw [h.2.2.1, h.2.2.2, pF_Page h]
    simp [up, List.set]
  · rw [h.2.2.1, h.2.2.2]
    exact kk
theorem gfN_Page_used (C : Cx p s m args meth c cc nL own ret D cy g A) {index a : Nat} {o : Int} (h : isO g 1 a o) (hlink : Cond.fieldLinkNest own index "SlotFile$Page" "used" "I" "SlotFile" ∈ nestL) (hd : decode cc pc = .ok (.getfield index, 3)) (kk : G p l e R s m args below meth c nL cells slots Q D cy g A H0 V (pc + 3) lv (vI (V o 0 4) :: st)) : G p l e R s m args below meth c nL cells slots Q D cy g A H0 V pc lv (.ref a :: st) :=
  g_getN (Cn := RX1) (T := TX1) (N := 13) C in_Page rfl h.1 (pF_Page h V) 4 (by decide) hlink (v := vI (V o 0 4)) rfl hd kk
theorem gpN_Page_used (C : Cx p s m args meth c cc nL own ret D cy g A) {index a : Nat} {o v : Int} (h : isO g 1 a o) (hlink : Cond.fieldLinkNest own index "SlotFile$Page" "used" "I" "SlotFile" ∈ nestL) (hd : decode cc pc = .ok (.putfield index, 3)) (kk : G p l e R s m args below meth c nL cells slots Q D cy g A H0 (up V o 0 4 v) (pc + 3) lv st) : G p l e R s m args below meth c nL cells slots Q D cy g A H0 V pc lv (vI v :: .ref a :: st) := by
  refine g_putN (Cn := RX1) (T := TX1) (N := 13) (ty := .int) (j := 4) C in_Page tyX1 tyX1_ok nmX1 rfl h.1 (pF_Page h V) 4 (by decide) hlink rfl (by decide +kernel) rfl rfl (Nat.le_of_ble_eq_true rfl) ?_ hd ?_
  · rw [h.2.2.1, h.2.2.2, pF_Page h]
    simp [up, List.set]
  · rw [h.2.2.1, h.2.2.2]
    exact kk
theorem gf_Page_end (C : Cx p s m args meth c cc nL own ret D cy g A) {index a : Nat} {o : Int} (h : isO g 1 a o) (hlink : Cond.fieldLink own index "SlotFile$Page" "end" "I" ∈ wsG) (hd : decode cc pc = .ok (.getfield index, 3)) (kk : G p l e R s m args below meth c nL cells slots Q D cy g A H0 V (pc + 3) lv (vI (V o 0 5) :: st)) : G p l e R s m args below meth c nL cells slots Q D cy g A H0 V pc lv (.ref a :: st) :=
  g_get (Cn := RX1) (T := TX1) (N := 13) C in_Page rfl h.1 (pF_Page h V) 5 (by decide) hlink (v := vI (V o 0 5)) rfl hd kk
theorem gp_Page_end (C : Cx p s m args meth c cc nL own ret D cy g A) {index a : Nat} {o v : Int} (h : isO g 1 a o) (hlink : Cond.fieldLink own index "SlotFile$Page" "end" "I" ∈ wsG) (hd : decode cc pc = .ok (.putfield index, 3)) (kk : G p l e R s m args below meth c nL cells slots Q D cy g A H0 (up V o 0 5 v) (pc + 3) lv st) : G p l e R s m args below meth c nL cells slots Q D cy g A H0 V pc lv (vI v :: .ref a :: st) := by
  refine g_put (Cn := RX1) (T := TX1) (N := 13) (ty := .int) (j := 5) C in_Page tyX1 tyX1_ok nmX1 rfl h.1 (pF_Page h V) 5 (by decide) hlink rfl (by decide +kernel) rfl rfl (Nat.le_of_ble_eq_true rfl) ?_ hd ?_
  · rw [h.2.2.1, h.2.2.2, pF_Page h]
    simp [up, List.set]
  · rw [h.2.2.1, h.2.2.2]
    exact kk
theorem gfN_Page_end (C : Cx p s m args meth c cc nL own ret D cy g A) {index a : Nat} {o : Int} (h : isO g 1 a o) (hlink : Cond.fieldLinkNest own index "SlotFile$Page" "end" "I" "SlotFile" ∈ nestL) (hd : decode cc pc = .ok (.getfield index, 3)) (kk : G p l e R s m args below meth c nL cells slots Q D cy g A H0 V (pc + 3) lv (vI (V o 0 5) :: st)) : G p l e R s m args below meth c nL cells slots Q D cy g A H0 V pc lv (.ref a :: st) :=
  g_getN (Cn := RX1) (T := TX1) (N := 13) C in_Page rfl h.1 (pF_Page h V) 5 (by decide) hlink (v := vI (V o 0 5)) rfl hd kk
theorem gpN_Page_end (C : Cx p s m args meth c cc nL own ret D cy g A) {index a : Nat} {o v : Int} (h : isO g 1 a o) (hlink : Cond.fieldLinkNest own index "SlotFile$Page" "end" "I" "SlotFile" ∈ nestL) (hd : decode cc pc = .ok (.putfield index, 3)) (kk : G p l e R s m args below meth c nL cells slots Q D cy g A H0 (up V o 0 5 v) (pc + 3) lv st) : G p l e R s m args below meth c nL cells slots Q D cy g A H0 V pc lv (vI v :: .ref a :: st) := by
  refine g_putN (Cn := RX1) (T := TX1) (N := 13) (ty := .int) (j := 5) C in_Page tyX1 tyX1_ok nmX1 rfl h.1 (pF_Page h V) 5 (by decide) hlink rfl (by decide +kernel) rfl rfl (Nat.le_of_ble_eq_true rfl) ?_ hd ?_
  · rw [h.2.2.1, h.2.2.2, pF_Page h]
    simp [up, List.set]
  · rw [h.2.2.1, h.2.2.2]
    exact kk
theorem gf_Page_chainNext (C : Cx p s m args meth c cc nL own ret D cy g A) {index a : Nat} {o : Int} (h : isO g 1 a o) (hlink : Cond.fieldLink own index "SlotFile$Page" "chainNext" "I" ∈ wsG) (hd : decode cc pc = .ok (.getfield index, 3)) (kk : G p l e R s m args below meth c nL cells slots Q D cy g A H0 V (pc + 3) lv (vI (V o 0 6) :: st)) : G p l e R s m args below meth c nL cells slots Q D cy g A H0 V pc lv (.ref a :: st) :=
  g_get (Cn := RX1) (T := TX1) (N := 13) C in_Page rfl h.1 (pF_Page h V) 6 (by decide) hlink (v := vI (V o 0 6)) rfl hd kk
theorem gp_Page_chainNext (C : Cx p s m args meth c cc nL own ret D cy g A) {index a : Nat} {o v : Int} (h : isO g 1 a o) (hlink : Cond.fieldLink own index "SlotFile$Page" "chainNext" "I" ∈ wsG) (hd : decode cc pc = .ok (.putfield index, 3)) (kk : G p l e R s m args below meth c nL cells slots Q D cy g A H0 (up V o 0 6 v) (pc + 3) lv st) : G p l e R s m args below meth c nL cells slots Q D cy g A H0 V pc lv (vI v :: .ref a :: st) := by
  refine g_put (Cn := RX1) (T := TX1) (N := 13) (ty := .int) (j := 6) C in_Page tyX1 tyX1_ok nmX1 rfl h.1 (pF_Page h V) 6 (by decide) hlink rfl (by decide +kernel) rfl rfl (Nat.le_of_ble_eq_true rfl) ?_ hd ?_
  · rw [h.2.2.1, h.2.2.2, pF_Page h]
    simp [up, List.set]
  · rw [h.2.2.1, h.2.2.2]
    exact kk
theorem gfN_Page_chainNext (C : Cx p s m args meth c cc nL own ret D cy g A) {index a : Nat} {o : Int} (h : isO g 1 a o) (hlink : Cond.fieldLinkNest own index "SlotFile$Page" "chainNext" "I" "SlotFile" ∈ nestL) (hd : decode cc pc = .ok (.getfield index, 3)) (kk : G p l e R s m args below meth c nL cells slots Q D cy g A H0 V (pc + 3) lv (vI (V o 0 6) :: st)) : G p l e R s m args below meth c nL cells slots Q D cy g A H0 V pc lv (.ref a :: st) :=
  g_getN (Cn := RX1) (T := TX1) (N := 13) C in_Page rfl h.1 (pF_Page h V) 6 (by decide) hlink (v := vI (V o 0 6)) rfl hd kk
theorem gpN_Page_chainNext (C : Cx p s m args meth c cc nL own ret D cy g A) {index a : Nat} {o v : Int} (h : isO g 1 a o) (hlink : Cond.fieldLinkNest own index "SlotFile$Page" "chainNext" "I" "SlotFile" ∈ nestL) (hd : decode cc pc = .ok (.putfield index, 3)) (kk : G p l e R s m args below meth c nL cells slots Q D cy g A H0 (up V o 0 6 v) (pc + 3) lv st) : G p l e R s m args below meth c nL cells slots Q D cy g A H0 V pc lv (vI v :: .ref a :: st) := by
  refine g_putN (Cn := RX1) (T := TX1) (N := 13) (ty := .int) (j := 6) C in_Page tyX1 tyX1_ok nmX1 rfl h.1 (pF_Page h V) 6 (by decide) hlink rfl (by decide +kernel) rfl rfl (Nat.le_of_ble_eq_true rfl) ?_ hd ?_
  · rw [h.2.2.1, h.2.2.2, pF_Page h]
    simp [up, List.set]
  · rw [h.2.2.1, h.2.2.2]
    exact kk
theorem gf_Page_chainBytes (C : Cx p s m args meth c cc nL own ret D cy g A) {index a : Nat} {o : Int} (h : isO g 1 a o) (hlink : Cond.fieldLink own index "SlotFile$Page" "chainBytes" "I" ∈ wsG) (hd : decode cc pc = .ok (.getfield index, 3)) (kk : G p l e R s m args below meth c nL cells slots Q D cy g A H0 V (pc + 3) lv (vI (V o 0 7) :: st)) : G p l e R s m args below meth c nL cells slots Q D cy g A H0 V pc lv (.ref a :: st) :=
  g_get (Cn := RX1) (T := TX1) (N := 13) C in_Page rfl h.1 (pF_Page h V) 7 (by decide) hlink (v := vI (V o 0 7)) rfl hd kk
theorem gp_Page_chainBytes (C : Cx p s m args meth c cc nL own ret D cy g A) {index a : Nat} {o v : Int} (h : isO g 1 a o) (hlink : Cond.fieldLink own index "SlotFile$Page" "chainBytes" "I" ∈ wsG) (hd : decode cc pc = .ok (.putfield index, 3)) (kk : G p l e R s m args below meth c nL cells slots Q D cy g A H0 (up V o 0 7 v) (pc + 3) lv st) : G p l e R s m args below meth c nL cells slots Q D cy g A H0 V pc lv (vI v :: .ref a :: st) := by
  refine g_put (Cn := RX1) (T := TX1) (N := 13) (ty := .int) (j := 7) C in_Page tyX1 tyX1_ok nmX1 rfl h.1 (pF_Page h V) 7 (by decide) hlink rfl (by decide +kernel) rfl rfl (Nat.le_of_ble_eq_true rfl) ?_ hd ?_
  · rw [h.2.2.1, h.2.2.2, pF_Page h]
    simp [up, List.set]
  · rw [h.2.2.1, h.2.2.2]
    exact kk
theorem gfN_Page_chainBytes (C : Cx p s m args meth c cc nL own ret D cy g A) {index a : Nat} {o : Int} (h : isO g 1 a o) (hlink : Cond.fieldLinkNest own index "SlotFile$Page" "chainBytes" "I" "SlotFile" ∈ nestL) (hd : decode cc pc = .ok (.getfield index, 3)) (kk : G p l e R s m args below meth c nL cells slots Q D cy g A H0 V (pc + 3) lv (vI (V o 0 7) :: st)) : G p l e R s m args below meth c nL cells slots Q D cy g A H0 V pc lv (.ref a :: st) :=
  g_getN (Cn := RX1) (T := TX1) (N := 13) C in_Page rfl h.1 (pF_Page h V) 7 (by decide) hlink (v := vI (V o 0 7)) rfl hd kk
theorem gpN_Page_chainBytes (C : Cx p s m args meth c cc nL own ret D cy g A) {index a : Nat} {o v : Int} (h : isO g 1 a o) (hlink : Cond.fieldLinkNest own index "SlotFile$Page" "chainBytes" "I" "SlotFile" ∈ nestL) (hd : decode cc pc = .ok (.putfield index, 3)) (kk : G p l e R s m args below meth c nL cells slots Q D cy g A H0 (up V o 0 7 v) (pc + 3) lv st) : G p l e R s m args below meth c nL cells slots Q D cy g A H0 V pc lv (vI v :: .ref a :: st) := by
  refine g_putN (Cn := RX1) (T := TX1) (N := 13) (ty := .int) (j := 7) C in_Page tyX1 tyX1_ok nmX1 rfl h.1 (pF_Page h V) 7 (by decide) hlink rfl (by decide +kernel) rfl rfl (Nat.le_of_ble_eq_true rfl) ?_ hd ?_
  · rw [h.2.2.1, h.2.2.2, pF_Page h]
    simp [up, List.set]
  · rw [h.2.2.1, h.2.2.2]
    exact kk
theorem gf_Page_compactings (C : Cx p s m args meth c cc nL own ret D cy g A) {index a : Nat} {o : Int} (h : isO g 1 a o) (hlink : Cond.fieldLink own index "SlotFile$Page" "compactings" "I" ∈ wsG) (hd : decode cc pc = .ok (.getfield index, 3)) (kk : G p l e R s m args below meth c nL cells slots Q D cy g A H0 V (pc + 3) lv (vI (V o 0 8) :: st)) : G p l e R s m args below meth c nL cells slots Q D cy g A H0 V pc lv (.ref a :: st) :=
  g_get (Cn := RX1) (T := TX1) (N := 13) C in_Page rfl h.1 (pF_Page h V) 8 (by decide) hlink (v := vI (V o 0 8)) rfl hd kk
theorem gp_Page_compactings (C : Cx p s m args meth c cc nL own ret D cy g A) {index a : Nat} {o v : Int} (h : isO g 1 a o) (hlink : Cond.fieldLink own index "SlotFile$Page" "compactings" "I" ∈ wsG) (hd : decode cc pc = .ok (.putfield index, 3)) (kk : G p l e R s m args below meth c nL cells slots Q D cy g A H0 (up V o 0 8 v) (pc + 3) lv st) : G p l e R s m args below meth c nL cells slots Q D cy g A H0 V pc lv (vI v :: .ref a :: st) := by
  refine g_put (Cn := RX1) (T := TX1) (N := 13) (ty := .int) (j := 8) C in_Page tyX1 tyX1_ok nmX1 rfl h.1 (pF_Page h V) 8 (by decide) hlink rfl (by decide +kernel) rfl rfl (Nat.le_of_ble_eq_true rfl) ?_ hd ?_
  · rw [h.2.2.1, h.2.2.2, pF_Page h]
    simp [up, List.set]
  · rw [h.2.2.1, h.2.2.2]
    exact kk
theorem gfN_Page_compactings (C : Cx p s m args meth c cc nL own ret D cy g A) {index a : Nat} {o : Int} (h : isO g 1 a o) (hlink : Cond.fieldLinkNest own index "SlotFile$Page" "compactings" "I" "SlotFile" ∈ nestL) (hd : decode cc pc = .ok (.getfield index, 3)) (kk : G p l e R s m args below meth c nL cells slots Q D cy g A H0 V (pc + 3) lv (vI (V o 0 8) :: st)) : G p l e R s m args below meth c nL cells slots Q D cy g A H0 V pc lv (.ref a :: st) :=
  g_getN (Cn := RX1) (T := TX1) (N := 13) C in_Page rfl h.1 (pF_Page h V) 8 (by decide) hlink (v := vI (V o 0 8)) rfl hd kk
theorem gpN_Page_compactings (C : Cx p s m args meth c cc nL own ret D cy g A) {index a : Nat} {o v : Int} (h : isO g 1 a o) (hlink : Cond.fieldLinkNest own index "SlotFile$Page" "compactings" "I" "SlotFile" ∈ nestL) (hd : decode cc pc = .ok (.putfield index, 3)) (kk : G p l e R s m args below meth c nL cells slots Q D cy g A H0 (up V o 0 8 v) (pc + 3) lv st) : G p l e R s m args below meth c nL cells slots Q D cy g A H0 V pc lv (vI v :: .ref a :: st) := by
  refine g_putN (Cn := RX1) (T := TX1) (N := 13) (ty := .int) (j := 8) C in_Page tyX1 tyX1_ok nmX1 rfl h.1 (pF_Page h V) 8 (by decide) hlink rfl (by decide +kernel) rfl rfl (Nat.le_of_ble_eq_true rfl) ?_ hd ?_
  · rw [h.2.2.1, h.2.2.2, pF_Page h]
    simp [up, List.set]
  · rw [h.2.2.1, h.2.2.2]
    exact kk
theorem gf_Page_kinds (C : Cx p s m args meth c cc nL own ret D cy g A) {index a b : Nat} {o : Int} (h : isO g 1 a o) (hb : gR g a 9 = some b) (hlink : Cond.fieldLink own index "SlotFile$Page" "kinds" "[I" ∈ wsG) (hd : decode cc pc = .ok (.getfield index, 3)) (kk : G p l e R s m args below meth c nL cells slots Q D cy g A H0 V (pc + 3) lv (.ref b :: st)) : G p l e R s m args below meth c nL cells slots Q D cy g A H0 V pc lv (.ref a :: st) :=
  g_get (Cn := RX1) (T := TX1) (N := 13) C in_Page rfl h.1 (pF_Page h V) 9 (by decide) hlink (v := .ref b) (by simp [hb, va_rf]) hd kk
theorem gfN_Page_kinds (C : Cx p s m args meth c cc nL own ret D cy g A) {index a b : Nat} {o : Int} (h : isO g 1 a o) (hb : gR g a 9 = some b) (hlink : Cond.fieldLinkNest own index "SlotFile$Page" "kinds" "[I" "SlotFile" ∈ nestL) (hd : decode cc pc = .ok (.getfield index, 3)) (kk : G p l e R s m args below meth c nL cells slots Q D cy g A H0 V (pc + 3) lv (.ref b :: st)) : G p l e R s m args below meth c nL cells slots Q D cy g A H0 V pc lv (.ref a :: st) :=
  g_getN (Cn := RX1) (T := TX1) (N := 13) C in_Page rfl h.1 (pF_Page h V) 9 (by decide) hlink (v := .ref b) (by simp [hb, va_rf]) hd kk
theorem gf_Page_lengths (C : Cx p s m args meth c cc nL own ret D cy g A) {index a b : Nat} {o : Int} (h : isO g 1 a o) (hb : gR g a 10 = some b) (hlink : Cond.fieldLink own index "SlotFile$Page" "lengths" "[I" ∈ wsG) (hd : decode cc pc = .ok (.getfield index, 3)) (kk : G p l e R s m args below meth c nL cells slots Q D cy g A H0 V (pc + 3) lv (.ref b :: st)) : G p l e R s m args below meth c nL cells slots Q D cy g A H0 V pc lv (.ref a :: st) :=
  g_get (Cn := RX1) (T := TX1) (N := 13) C in_Page rfl h.1 (pF_Page h V) 10 (by decide) hlink (v := .ref b) (by simp [hb, va_rf]) hd kk
theorem gfN_Page_lengths (C : Cx p s m args meth c cc nL own ret D cy g A) {index a b : Nat} {o : Int} (h : isO g 1 a o) (hb : gR g a 10 = some b) (hlink : Cond.fieldLinkNest own index "SlotFile$Page" "lengths" "[I" "SlotFile" ∈ nestL) (hd : decode cc pc = .ok (.getfield index, 3)) (kk : G p l e R s m args below meth c nL cells slots Q D cy g A H0 V (pc + 3) lv (.ref b :: st)) : G p l e R s m args below meth c nL cells slots Q D cy g A H0 V pc lv (.ref a :: st) :=
  g_getN (Cn := RX1) (T := TX1) (N := 13) C in_Page rfl h.1 (pF_Page h V) 10 (by decide) hlink (v := .ref b) (by simp [hb, va_rf]) hd kk
theorem gf_Page_seeds (C : Cx p s m args meth c cc nL own ret D cy g A) {index a b : Nat} {o : Int} (h : isO g 1 a o) (hb : gR g a 11 = some b) (hlink : Cond.fieldLink own index "SlotFile$Page" "seeds" "[I" ∈ wsG) (hd : decode cc pc = .ok (.getfield index, 3)) (kk : G p l e R s m args below meth c nL cells slots Q D cy g A H0 V (pc + 3) lv (.ref b :: st)) : G p l e R s m args below meth c nL cells slots Q D cy g A H0 V pc lv (.ref a :: st) :=
  g_get (Cn := RX1) (T := TX1) (N := 13) C in_Page rfl h.1 (pF_Page h V) 11 (by decide) hlink (v := .ref b) (by simp [hb, va_rf]) hd kk
theorem gfN_Page_seeds (C : Cx p s m args meth c cc nL own ret D cy g A) {index a b : Nat} {o : Int} (h : isO g 1 a o) (hb : gR g a 11 = some b) (hlink : Cond.fieldLinkNest own index "SlotFile$Page" "seeds" "[I" "SlotFile" ∈ nestL) (hd : decode cc pc = .ok (.getfield index, 3)) (kk : G p l e R s m args below meth c nL cells slots Q D cy g A H0 V (pc + 3) lv (.ref b :: st)) : G p l e R s m args below meth c nL cells slots Q D cy g A H0 V pc lv (.ref a :: st) :=
  g_getN (Cn := RX1) (T := TX1) (N := 13) C in_Page rfl h.1 (pF_Page h V) 11 (by decide) hlink (v := .ref b) (by simp [hb, va_rf]) hd kk
theorem gf_Page_links (C : Cx p s m args meth c cc nL own ret D cy g A) {index a b : Nat} {o : Int} (h : isO g 1 a o) (hb : gR g a 12 = some b) (hlink : Cond.fieldLink own index "SlotFile$Page" "links" "[I" ∈ wsG) (hd : decode cc pc = .ok (.getfield index, 3)) (kk : G p l e R s m args below meth c nL cells slots Q D cy g A H0 V (pc + 3) lv (.ref b :: st)) : G p l e R s m args below meth c nL cells slots Q D cy g A H0 V pc lv (.ref a :: st) :=
  g_get (Cn := RX1) (T := TX1) (N := 13) C in_Page rfl h.1 (pF_Page h V) 12 (by decide) hlink (v := .ref b) (by simp [hb, va_rf]) hd kk
theorem gfN_Page_links (C : Cx p s m args meth c cc nL own ret D cy g A) {index a b : Nat} {o : Int} (h : isO g 1 a o) (hb : gR g a 12 = some b) (hlink : Cond.fieldLinkNest own index "SlotFile$Page" "links" "[I" "SlotFile" ∈ nestL) (hd : decode cc pc = .ok (.getfield index, 3)) (kk : G p l e R s m args below meth c nL cells slots Q D cy g A H0 V (pc + 3) lv (.ref b :: st)) : G p l e R s m args below meth c nL cells slots Q D cy g A H0 V pc lv (.ref a :: st) :=
  g_getN (Cn := RX1) (T := TX1) (N := 13) C in_Page rfl h.1 (pF_Page h V) 12 (by decide) hlink (v := .ref b) (by simp [hb, va_rf]) hd kk
theorem in_Store : ∀ w ∈ u_ws RX2 TX2 1, w ∈ wsG := by
  intro w hw
  refine List.mem_filter.mpr ⟨?_, ?_⟩
  · exact (show ∀ w ∈ u_ws RX2 TX2 1, w ∈ lw_tbl by decide +kernel) w hw
  · exact (show ∀ w ∈ u_ws RX2 TX2 1, goodWord w = true by decide +kernel) w hw
theorem pF_Store {a : Nat} {o : Int} (h : isO g 2 a o) (V : VT) : pF cy g V a = .inr (2, [va_rf (gR g a 0)]) := by
  obtain ⟨h1, h2, h3, h4⟩ := h
  simp [pF, h2, h3, h4]
theorem gf_Store_pages (C : Cx p s m args meth c cc nL own ret D cy g A) {index a b : Nat} {o : Int} (h : isO g 2 a o) (hb : gR g a 0 = some b) (hlink : Cond.fieldLink own index "SlotFile$Store" "pages" "[LSlotFile$Page;" ∈ wsG) (hd : decode cc pc = .ok (.getfield index, 3)) (kk : G p l e R s m args below meth c nL cells slots Q D cy g A H0 V (pc + 3) lv (.ref b :: st)) : G p l e R s m args below meth c nL cells slots Q D cy g A H0 V pc lv (.ref a :: st) :=
  g_get (Cn := RX2) (T := TX2) (N := 1) C in_Store rfl h.1 (pF_Store h V) 0 (by decide) hlink (v := .ref b) (by simp [hb, va_rf]) hd kk
theorem gfN_Store_pages (C : Cx p s m args meth c cc nL own ret D cy g A) {index a b : Nat} {o : Int} (h : isO g 2 a o) (hb : gR g a 0 = some b) (hlink : Cond.fieldLinkNest own index "SlotFile$Store" "pages" "[LSlotFile$Page;" "SlotFile" ∈ nestL) (hd : decode cc pc = .ok (.getfield index, 3)) (kk : G p l e R s m args below meth c nL cells slots Q D cy g A H0 V (pc + 3) lv (.ref b :: st)) : G p l e R s m args below meth c nL cells slots Q D cy g A H0 V pc lv (.ref a :: st) :=
  g_getN (Cn := RX2) (T := TX2) (N := 1) C in_Store rfl h.1 (pF_Store h V) 0 (by decide) hlink (v := .ref b) (by simp [hb, va_rf]) hd kk
theorem in_Sf : ∀ w ∈ u_ws RX3 TX3 4, w ∈ wsG := by
  intro w hw
  refine List.mem_filter.mpr ⟨?_, ?_⟩
  · exact (show ∀ w ∈ u_ws RX3 TX3 4, w ∈ lw_tbl by decide +kernel) w hw
  · exact (show ∀ w ∈ u_ws RX3 TX3 4, goodWord w = true by decide +kernel) w hw
theorem pF_Sf {a : Nat} {o : Int} (h : isO g 3 a o) (V : VT) : pF cy g V a = .inr (3, [va_rf (gR g a 0), va_rf (gR g a 1), va_rf (gR g a 2), vI (V o 0 3)]) := by
  obtain ⟨h1, h2, h3, h4⟩ := h
  simp [pF, h2, h3, h4]
theorem gf_Sf_live (C : Cx p s m args meth c cc nL own ret D cy g A) {index a b : Nat} {o : Int} (h : isO g 3 a o) (hb : gR g a 0 = some b) (hlink : Cond.fieldLink own index "SlotFile" "live" "LSlotFile$Store;" ∈ wsG) (hd : decode cc pc = .ok (.getfield index, 3)) (kk : G p l e R s m args below meth c nL cells slots Q D cy g A H0 V (pc + 3) lv (.ref b :: st)) : G p l e R s m args below meth c nL cells slots Q D cy g A H0 V pc lv (.ref a :: st) :=
  g_get (Cn := RX3) (T := TX3) (N := 4) C in_Sf rfl h.1 (pF_Sf h V) 0 (by decide) hlink (v := .ref b) (by simp [hb, va_rf]) hd kk
theorem gfN_Sf_live (C : Cx p s m args meth c cc nL own ret D cy g A) {index a b : Nat} {o : Int} (h : isO g 3 a o) (hb : gR g a 0 = some b) (hlink : Cond.fieldLinkNest own index "SlotFile" "live" "LSlotFile$Store;" "SlotFile" ∈ nestL) (hd : decode cc pc = .ok (.getfield index, 3)) (kk : G p l e R s m args below meth c nL cells slots Q D cy g A H0 V (pc + 3) lv (.ref b :: st)) : G p l e R s m args below meth c nL cells slots Q D cy g A H0 V pc lv (.ref a :: st) :=
  g_getN (Cn := RX3) (T := TX3) (N := 4) C in_Sf rfl h.1 (pF_Sf h V) 0 (by decide) hlink (v := .ref b) (by simp [hb, va_rf]) hd kk
theorem gf_Sf_synced (C : Cx p s m args meth c cc nL own ret D cy g A) {index a b : Nat} {o : Int} (h : isO g 3 a o) (hb : gR g a 1 = some b) (hlink : Cond.fieldLink own index "SlotFile" "synced" "LSlotFile$Store;" ∈ wsG) (hd : decode cc pc = .ok (.getfield index, 3)) (kk : G p l e R s m args below meth c nL cells slots Q D cy g A H0 V (pc + 3) lv (.ref b :: st)) : G p l e R s m args below meth c nL cells slots Q D cy g A H0 V pc lv (.ref a :: st) :=
  g_get (Cn := RX3) (T := TX3) (N := 4) C in_Sf rfl h.1 (pF_Sf h V) 1 (by decide) hlink (v := .ref b) (by simp [hb, va_rf]) hd kk
theorem gfN_Sf_synced (C : Cx p s m args meth c cc nL own ret D cy g A) {index a b : Nat} {o : Int} (h : isO g 3 a o) (hb : gR g a 1 = some b) (hlink : Cond.fieldLinkNest own index "SlotFile" "synced" "LSlotFile$Store;" "SlotFile" ∈ nestL) (hd : decode cc pc = .ok (.getfield index, 3)) (kk : G p l e R s m args below meth c nL cells slots Q D cy g A H0 V (pc + 3) lv (.ref b :: st)) : G p l e R s m args below meth c nL cells slots Q D cy g A H0 V pc lv (.ref a :: st) :=
  g_getN (Cn := RX3) (T := TX3) (N := 4) C in_Sf rfl h.1 (pF_Sf h V) 1 (by decide) hlink (v := .ref b) (by simp [hb, va_rf]) hd kk
theorem gf_Sf_log (C : Cx p s m args meth c cc nL own ret D cy g A) {index a b : Nat} {o : Int} (h : isO g 3 a o) (hb : gR g a 2 = some b) (hlink : Cond.fieldLink own index "SlotFile" "log" "LSlotFile$Log;" ∈ wsG) (hd : decode cc pc = .ok (.getfield index, 3)) (kk : G p l e R s m args below meth c nL cells slots Q D cy g A H0 V (pc + 3) lv (.ref b :: st)) : G p l e R s m args below meth c nL cells slots Q D cy g A H0 V pc lv (.ref a :: st) :=
  g_get (Cn := RX3) (T := TX3) (N := 4) C in_Sf rfl h.1 (pF_Sf h V) 2 (by decide) hlink (v := .ref b) (by simp [hb, va_rf]) hd kk
theorem gfN_Sf_log (C : Cx p s m args meth c cc nL own ret D cy g A) {index a b : Nat} {o : Int} (h : isO g 3 a o) (hb : gR g a 2 = some b) (hlink : Cond.fieldLinkNest own index "SlotFile" "log" "LSlotFile$Log;" "SlotFile" ∈ nestL) (hd : decode cc pc = .ok (.getfield index, 3)) (kk : G p l e R s m args below meth c nL cells slots Q D cy g A H0 V (pc + 3) lv (.ref b :: st)) : G p l e R s m args below meth c nL cells slots Q D cy g A H0 V pc lv (.ref a :: st) :=
  g_getN (Cn := RX3) (T := TX3) (N := 4) C in_Sf rfl h.1 (pF_Sf h V) 2 (by decide) hlink (v := .ref b) (by simp [hb, va_rf]) hd kk
theorem gf_Sf_crashes (C : Cx p s m args meth c cc nL own ret D cy g A) {index a : Nat} {o : Int} (h : isO g 3 a o) (hlink : Cond.fieldLink own index "SlotFile" "crashes" "I" ∈ wsG) (hd : decode cc pc = .ok (.getfield index, 3)) (kk : G p l e R s m args below meth c nL cells slots Q D cy g A H0 V (pc + 3) lv (vI (V o 0 3) :: st)) : G p l e R s m args below meth c nL cells slots Q D cy g A H0 V pc lv (.ref a :: st) :=
  g_get (Cn := RX3) (T := TX3) (N := 4) C in_Sf rfl h.1 (pF_Sf h V) 3 (by decide) hlink (v := vI (V o 0 3)) rfl hd kk
theorem gp_Sf_crashes (C : Cx p s m args meth c cc nL own ret D cy g A) {index a : Nat} {o v : Int} (h : isO g 3 a o) (hlink : Cond.fieldLink own index "SlotFile" "crashes" "I" ∈ wsG) (hd : decode cc pc = .ok (.putfield index, 3)) (kk : G p l e R s m args below meth c nL cells slots Q D cy g A H0 (up V o 0 3 v) (pc + 3) lv st) : G p l e R s m args below meth c nL cells slots Q D cy g A H0 V pc lv (vI v :: .ref a :: st) := by
  refine g_put (Cn := RX3) (T := TX3) (N := 4) (ty := .int) (j := 3) C in_Sf tyX3 tyX3_ok nmX3 rfl h.1 (pF_Sf h V) 3 (by decide) hlink rfl (by decide +kernel) rfl rfl (Nat.le_of_ble_eq_true rfl) ?_ hd ?_
  · rw [h.2.2.1, h.2.2.2, pF_Sf h]
    simp [up, List.set]
  · rw [h.2.2.1, h.2.2.2]
    exact kk
theorem gfN_Sf_crashes (C : Cx p s m args meth c cc nL own ret D cy g A) {index a : Nat} {o : Int} (h : isO g 3 a o) (hlink : Cond.fieldLinkNest own index "SlotFile" "crashes" "I" "SlotFile" ∈ nestL) (hd : decode cc pc = .ok (.getfield index, 3)) (kk : G p l e R s m args below meth c nL cells slots Q D cy g A H0 V (pc + 3) lv (vI (V o 0 3) :: st)) : G p l e R s m args below meth c nL cells slots Q D cy g A H0 V pc lv (.ref a :: st) :=
  g_getN (Cn := RX3) (T := TX3) (N := 4) C in_Sf rfl h.1 (pF_Sf h V) 3 (by decide) hlink (v := vI (V o 0 3)) rfl hd kk
theorem gpN_Sf_crashes (C : Cx p s m args meth c cc nL own ret D cy g A) {index a : Nat} {o v : Int} (h : isO g 3 a o) (hlink : Cond.fieldLinkNest own index "SlotFile" "crashes" "I" "SlotFile" ∈ nestL) (hd : decode cc pc = .ok (.putfield index, 3)) (kk : G p l e R s m args below meth c nL cells slots Q D cy g A H0 (up V o 0 3 v) (pc + 3) lv st) : G p l e R s m args below meth c nL cells slots Q D cy g A H0 V pc lv (vI v :: .ref a :: st) := by
  refine g_putN (Cn := RX3) (T := TX3) (N := 4) (ty := .int) (j := 3) C in_Sf tyX3 tyX3_ok nmX3 rfl h.1 (pF_Sf h V) 3 (by decide) hlink rfl (by decide +kernel) rfl rfl (Nat.le_of_ble_eq_true rfl) ?_ hd ?_
  · rw [h.2.2.1, h.2.2.2, pF_Sf h]
    simp [up, List.set]
  · rw [h.2.2.1, h.2.2.2]
    exact kk
theorem in_Mod : ∀ w ∈ u_ws RX4 TX4 8, w ∈ wsG := by
  intro w hw
  refine List.mem_filter.mpr ⟨?_, ?_⟩
  · exact (show ∀ w ∈ u_ws RX4 TX4 8, w ∈ lw_tbl by decide +kernel) w hw
  · exact (show ∀ w ∈ u_ws RX4 TX4 8, goodWord w = true by decide +kernel) w hw
theorem pF_Mod {a : Nat} {o : Int} (h : isO g 4 a o) (V : VT) : pF cy g V a = .inr (4, [va_rf (gR g a 0), va_rf (gR g a 1), va_rf (gR g a 2), vI (V o 0 3), vI (V o 0 4), vI (V o 0 5), vI (V o 0 6), vI (V o 0 7)]) := by
  obtain ⟨h1, h2, h3, h4⟩ := h
  simp [pF, h2, h3, h4]
theorem gf_Mod_d (C : Cx p s m args meth c cc nL own ret D cy g A) {index a b : Nat} {o : Int} (h : isO g 4 a o) (hb : gR g a 0 = some b) (hlink : Cond.fieldLink own index "SlotFileModel" "d" "[I" ∈ wsG) (hd : decode cc pc = .ok (.getfield index, 3)) (kk : G p l e R s m args below meth c nL cells slots Q D cy g A H0 V (pc + 3) lv (.ref b :: st)) : G p l e R s m args below meth c nL cells slots Q D cy g A H0 V pc lv (.ref a :: st) :=
  g_get (Cn := RX4) (T := TX4) (N := 8) C in_Mod rfl h.1 (pF_Mod h V) 0 (by decide) hlink (v := .ref b) (by simp [hb, va_rf]) hd kk
theorem gfN_Mod_d (C : Cx p s m args meth c cc nL own ret D cy g A) {index a b : Nat} {o : Int} (h : isO g 4 a o) (hb : gR g a 0 = some b) (hlink : Cond.fieldLinkNest own index "SlotFileModel" "d" "[I" "SlotFile" ∈ nestL) (hd : decode cc pc = .ok (.getfield index, 3)) (kk : G p l e R s m args below meth c nL cells slots Q D cy g A H0 V (pc + 3) lv (.ref b :: st)) : G p l e R s m args below meth c nL cells slots Q D cy g A H0 V pc lv (.ref a :: st) :=
  g_getN (Cn := RX4) (T := TX4) (N := 8) C in_Mod rfl h.1 (pF_Mod h V) 0 (by decide) hlink (v := .ref b) (by simp [hb, va_rf]) hd kk
theorem gf_Mod_synced (C : Cx p s m args meth c cc nL own ret D cy g A) {index a b : Nat} {o : Int} (h : isO g 4 a o) (hb : gR g a 1 = some b) (hlink : Cond.fieldLink own index "SlotFileModel" "synced" "[I" ∈ wsG) (hd : decode cc pc = .ok (.getfield index, 3)) (kk : G p l e R s m args below meth c nL cells slots Q D cy g A H0 V (pc + 3) lv (.ref b :: st)) : G p l e R s m args below meth c nL cells slots Q D cy g A H0 V pc lv (.ref a :: st) :=
  g_get (Cn := RX4) (T := TX4) (N := 8) C in_Mod rfl h.1 (pF_Mod h V) 1 (by decide) hlink (v := .ref b) (by simp [hb, va_rf]) hd kk
theorem gfN_Mod_synced (C : Cx p s m args meth c cc nL own ret D cy g A) {index a b : Nat} {o : Int} (h : isO g 4 a o) (hb : gR g a 1 = some b) (hlink : Cond.fieldLinkNest own index "SlotFileModel" "synced" "[I" "SlotFile" ∈ nestL) (hd : decode cc pc = .ok (.getfield index, 3)) (kk : G p l e R s m args below meth c nL cells slots Q D cy g A H0 V (pc + 3) lv (.ref b :: st)) : G p l e R s m args below meth c nL cells slots Q D cy g A H0 V pc lv (.ref a :: st) :=
  g_getN (Cn := RX4) (T := TX4) (N := 8) C in_Mod rfl h.1 (pF_Mod h V) 1 (by decide) hlink (v := .ref b) (by simp [hb, va_rf]) hd kk
theorem gf_Mod_changes (C : Cx p s m args meth c cc nL own ret D cy g A) {index a b : Nat} {o : Int} (h : isO g 4 a o) (hb : gR g a 2 = some b) (hlink : Cond.fieldLink own index "SlotFileModel" "changes" "[I" ∈ wsG) (hd : decode cc pc = .ok (.getfield index, 3)) (kk : G p l e R s m args below meth c nL cells slots Q D cy g A H0 V (pc + 3) lv (.ref b :: st)) : G p l e R s m args below meth c nL cells slots Q D cy g A H0 V pc lv (.ref a :: st) :=
  g_get (Cn := RX4) (T := TX4) (N := 8) C in_Mod rfl h.1 (pF_Mod h V) 2 (by decide) hlink (v := .ref b) (by simp [hb, va_rf]) hd kk
theorem gfN_Mod_changes (C : Cx p s m args meth c cc nL own ret D cy g A) {index a b : Nat} {o : Int} (h : isO g 4 a o) (hb : gR g a 2 = some b) (hlink : Cond.fieldLinkNest own index "SlotFileModel" "changes" "[I" "SlotFile" ∈ nestL) (hd : decode cc pc = .ok (.getfield index, 3)) (kk : G p l e R s m args below meth c nL cells slots Q D cy g A H0 V (pc + 3) lv (.ref b :: st)) : G p l e R s m args below meth c nL cells slots Q D cy g A H0 V pc lv (.ref a :: st) :=
  g_getN (Cn := RX4) (T := TX4) (N := 8) C in_Mod rfl h.1 (pF_Mod h V) 2 (by decide) hlink (v := .ref b) (by simp [hb, va_rf]) hd kk
theorem gf_Mod_changeCount (C : Cx p s m args meth c cc nL own ret D cy g A) {index a : Nat} {o : Int} (h : isO g 4 a o) (hlink : Cond.fieldLink own index "SlotFileModel" "changeCount" "I" ∈ wsG) (hd : decode cc pc = .ok (.getfield index, 3)) (kk : G p l e R s m args below meth c nL cells slots Q D cy g A H0 V (pc + 3) lv (vI (V o 0 3) :: st)) : G p l e R s m args below meth c nL cells slots Q D cy g A H0 V pc lv (.ref a :: st) :=
  g_get (Cn := RX4) (T := TX4) (N := 8) C in_Mod rfl h.1 (pF_Mod h V) 3 (by decide) hlink (v := vI (V o 0 3)) rfl hd kk
theorem gp_Mod_changeCount (C : Cx p s m args meth c cc nL own ret D cy g A) {index a : Nat} {o v : Int} (h : isO g 4 a o) (hlink : Cond.fieldLink own index "SlotFileModel" "changeCount" "I" ∈ wsG) (hd : decode cc pc = .ok (.putfield index, 3)) (kk : G p l e R s m args below meth c nL cells slots Q D cy g A H0 (up V o 0 3 v) (pc + 3) lv st) : G p l e R s m args below meth c nL cells slots Q D cy g A H0 V pc lv (vI v :: .ref a :: st) := by
  refine g_put (Cn := RX4) (T := TX4) (N := 8) (ty := .int) (j := 3) C in_Mod tyX4 tyX4_ok nmX4 rfl h.1 (pF_Mod h V) 3 (by decide) hlink rfl (by decide +kernel) rfl rfl (Nat.le_of_ble_eq_true rfl) ?_ hd ?_
  · rw [h.2.2.1, h.2.2.2, pF_Mod h]
    simp [up, List.set]
  · rw [h.2.2.1, h.2.2.2]
    exact kk
theorem gfN_Mod_changeCount (C : Cx p s m args meth c cc nL own ret D cy g A) {index a : Nat} {o : Int} (h : isO g 4 a o) (hlink : Cond.fieldLinkNest own index "SlotFileModel" "changeCount" "I" "SlotFile" ∈ nestL) (hd : decode cc pc = .ok (.getfield index, 3)) (kk : G p l e R s m args below meth c nL cells slots Q D cy g A H0 V (pc + 3) lv (vI (V o 0 3) :: st)) : G p l e R s m args below meth c nL cells slots Q D cy g A H0 V pc lv (.ref a :: st) :=
  g_getN (Cn := RX4) (T := TX4) (N := 8) C in_Mod rfl h.1 (pF_Mod h V) 3 (by decide) hlink (v := vI (V o 0 3)) rfl hd kk
theorem gpN_Mod_changeCount (C : Cx p s m args meth c cc nL own ret D cy g A) {index a : Nat} {o v : Int} (h : isO g 4 a o) (hlink : Cond.fieldLinkNest own index "SlotFileModel" "changeCount" "I" "SlotFile" ∈ nestL) (hd : decode cc pc = .ok (.putfield index, 3)) (kk : G p l e R s m args below meth c nL cells slots Q D cy g A H0 (up V o 0 3 v) (pc + 3) lv st) : G p l e R s m args below meth c nL cells slots Q D cy g A H0 V pc lv (vI v :: .ref a :: st) := by
  refine g_putN (Cn := RX4) (T := TX4) (N := 8) (ty := .int) (j := 3) C in_Mod tyX4 tyX4_ok nmX4 rfl h.1 (pF_Mod h V) 3 (by decide) hlink rfl (by decide +kernel) rfl rfl (Nat.le_of_ble_eq_true rfl) ?_ hd ?_
  · rw [h.2.2.1, h.2.2.2, pF_Mod h]
    simp [up, List.set]
  · rw [h.2.2.1, h.2.2.2]
    exact kk
theorem gf_Mod_compacted (C : Cx p s m args meth c cc nL own ret D cy g A) {index a : Nat} {o : Int} (h : isO g 4 a o) (hlink : Cond.fieldLink own index "SlotFileModel" "compacted" "I" ∈ wsG) (hd : decode cc pc = .ok (.getfield index, 3)) (kk : G p l e R s m args below meth c nL cells slots Q D cy g A H0 V (pc + 3) lv (vI (V o 0 4) :: st)) : G p l e R s m args below meth c nL cells slots Q D cy g A H0 V pc lv (.ref a :: st) :=
  g_get (Cn := RX4) (T := TX4) (N := 8) C in_Mod rfl h.1 (pF_Mod h V) 4 (by decide) hlink (v := vI (V o 0 4)) rfl hd kk
theorem gp_Mod_compacted (C : Cx p s m args meth c cc nL own ret D cy g A) {index a : Nat} {o v : Int} (h : isO g 4 a o) (hlink : Cond.fieldLink own index "SlotFileModel" "compacted" "I" ∈ wsG) (hd : decode cc pc = .ok (.putfield index, 3)) (kk : G p l e R s m args below meth c nL cells slots Q D cy g A H0 (up V o 0 4 v) (pc + 3) lv st) : G p l e R s m args below meth c nL cells slots Q D cy g A H0 V pc lv (vI v :: .ref a :: st) := by
  refine g_put (Cn := RX4) (T := TX4) (N := 8) (ty := .int) (j := 4) C in_Mod tyX4 tyX4_ok nmX4 rfl h.1 (pF_Mod h V) 4 (by decide) hlink rfl (by decide +kernel) rfl rfl (Nat.le_of_ble_eq_true rfl) ?_ hd ?_
  · rw [h.2.2.1, h.2.2.2, pF_Mod h]
    simp [up, List.set]
  · rw [h.2.2.1, h.2.2.2]
    exact kk
theorem gfN_Mod_compacted (C : Cx p s m args meth c cc nL own ret D cy g A) {index a : Nat} {o : Int} (h : isO g 4 a o) (hlink : Cond.fieldLinkNest own index "SlotFileModel" "compacted" "I" "SlotFile" ∈ nestL) (hd : decode cc pc = .ok (.getfield index, 3)) (kk : G p l e R s m args below meth c nL cells slots Q D cy g A H0 V (pc + 3) lv (vI (V o 0 4) :: st)) : G p l e R s m args below meth c nL cells slots Q D cy g A H0 V pc lv (.ref a :: st) :=
  g_getN (Cn := RX4) (T := TX4) (N := 8) C in_Mod rfl h.1 (pF_Mod h V) 4 (by decide) hlink (v := vI (V o 0 4)) rfl hd kk
theorem gpN_Mod_compacted (C : Cx p s m args meth c cc nL own ret D cy g A) {index a : Nat} {o v : Int} (h : isO g 4 a o) (hlink : Cond.fieldLinkNest own index "SlotFileModel" "compacted" "I" "SlotFile" ∈ nestL) (hd : decode cc pc = .ok (.putfield index, 3)) (kk : G p l e R s m args below meth c nL cells slots Q D cy g A H0 (up V o 0 4 v) (pc + 3) lv st) : G p l e R s m args below meth c nL cells slots Q D cy g A H0 V pc lv (vI v :: .ref a :: st) := by
  refine g_putN (Cn := RX4) (T := TX4) (N := 8) (ty := .int) (j := 4) C in_Mod tyX4 tyX4_ok nmX4 rfl h.1 (pF_Mod h V) 4 (by decide) hlink rfl (by decide +kernel) rfl rfl (Nat.le_of_ble_eq_true rfl) ?_ hd ?_
  · rw [h.2.2.1, h.2.2.2, pF_Mod h]
    simp [up, List.set]
  · rw [h.2.2.1, h.2.2.2]
    exact kk
theorem gf_Mod_crashes (C : Cx p s m args meth c cc nL own ret D cy g A) {index a : Nat} {o : Int} (h : isO g 4 a o) (hlink : Cond.fieldLink own index "SlotFileModel" "crashes" "I" ∈ wsG) (hd : decode cc pc = .ok (.getfield index, 3)) (kk : G p l e R s m args below meth c nL cells slots Q D cy g A H0 V (pc + 3) lv (vI (V o 0 5) :: st)) : G p l e R s m args below meth c nL cells slots Q D cy g A H0 V pc lv (.ref a :: st) :=
  g_get (Cn := RX4) (T := TX4) (N := 8) C in_Mod rfl h.1 (pF_Mod h V) 5 (by decide) hlink (v := vI (V o 0 5)) rfl hd kk
theorem gp_Mod_crashes (C : Cx p s m args meth c cc nL own ret D cy g A) {index a : Nat} {o v : Int} (h : isO g 4 a o) (hlink : Cond.fieldLink own index "SlotFileModel" "crashes" "I" ∈ wsG) (hd : decode cc pc = .ok (.putfield index, 3)) (kk : G p l e R s m args below meth c nL cells slots Q D cy g A H0 (up V o 0 5 v) (pc + 3) lv st) : G p l e R s m args below meth c nL cells slots Q D cy g A H0 V pc lv (vI v :: .ref a :: st) := by
  refine g_put (Cn := RX4) (T := TX4) (N := 8) (ty := .int) (j := 5) C in_Mod tyX4 tyX4_ok nmX4 rfl h.1 (pF_Mod h V) 5 (by decide) hlink rfl (by decide +kernel) rfl rfl (Nat.le_of_ble_eq_true rfl) ?_ hd ?_
  · rw [h.2.2.1, h.2.2.2, pF_Mod h]
    simp [up, List.set]
  · rw [h.2.2.1, h.2.2.2]
    exact kk
theorem gfN_Mod_crashes (C : Cx p s m args meth c cc nL own ret D cy g A) {index a : Nat} {o : Int} (h : isO g 4 a o) (hlink : Cond.fieldLinkNest own index "SlotFileModel" "crashes" "I" "SlotFile" ∈ nestL) (hd : decode cc pc = .ok (.getfield index, 3)) (kk : G p l e R s m args below meth c nL cells slots Q D cy g A H0 V (pc + 3) lv (vI (V o 0 5) :: st)) : G p l e R s m args below meth c nL cells slots Q D cy g A H0 V pc lv (.ref a :: st) :=
  g_getN (Cn := RX4) (T := TX4) (N := 8) C in_Mod rfl h.1 (pF_Mod h V) 5 (by decide) hlink (v := vI (V o 0 5)) rfl hd kk
theorem gpN_Mod_crashes (C : Cx p s m args meth c cc nL own ret D cy g A) {index a : Nat} {o v : Int} (h : isO g 4 a o) (hlink : Cond.fieldLinkNest own index "SlotFileModel" "crashes" "I" "SlotFile" ∈ nestL) (hd : decode cc pc = .ok (.putfield index, 3)) (kk : G p l e R s m args below meth c nL cells slots Q D cy g A H0 (up V o 0 5 v) (pc + 3) lv st) : G p l e R s m args below meth c nL cells slots Q D cy g A H0 V pc lv (vI v :: .ref a :: st) := by
  refine g_putN (Cn := RX4) (T := TX4) (N := 8) (ty := .int) (j := 5) C in_Mod tyX4 tyX4_ok nmX4 rfl h.1 (pF_Mod h V) 5 (by decide) hlink rfl (by decide +kernel) rfl rfl (Nat.le_of_ble_eq_true rfl) ?_ hd ?_
  · rw [h.2.2.1, h.2.2.2, pF_Mod h]
    simp [up, List.set]
  · rw [h.2.2.1, h.2.2.2]
    exact kk
theorem gf_Mod_again (C : Cx p s m args meth c cc nL own ret D cy g A) {index a : Nat} {o : Int} (h : isO g 4 a o) (hlink : Cond.fieldLink own index "SlotFileModel" "again" "Z" ∈ wsG) (hd : decode cc pc = .ok (.getfield index, 3)) (kk : G p l e R s m args below meth c nL cells slots Q D cy g A H0 V (pc + 3) lv (vI (V o 0 6) :: st)) : G p l e R s m args below meth c nL cells slots Q D cy g A H0 V pc lv (.ref a :: st) :=
  g_get (Cn := RX4) (T := TX4) (N := 8) C in_Mod rfl h.1 (pF_Mod h V) 6 (by decide) hlink (v := vI (V o 0 6)) rfl hd kk
theorem gp_Mod_again (C : Cx p s m args meth c cc nL own ret D cy g A) {index a : Nat} {o v : Int} (h : isO g 4 a o) (hz : v = 0 ∨ v = 1) (hlink : Cond.fieldLink own index "SlotFileModel" "again" "Z" ∈ wsG) (hd : decode cc pc = .ok (.putfield index, 3)) (kk : G p l e R s m args below meth c nL cells slots Q D cy g A H0 (up V o 0 6 v) (pc + 3) lv st) : G p l e R s m args below meth c nL cells slots Q D cy g A H0 V pc lv (vI v :: .ref a :: st) := by
  refine g_put (Cn := RX4) (T := TX4) (N := 8) (ty := .boolean) (j := 6) C in_Mod tyX4 tyX4_ok nmX4 rfl h.1 (pF_Mod h V) 6 (by decide) hlink rfl (by decide +kernel) (by rcases hz with rfl | rfl <;> rfl) (by rcases hz with rfl | rfl <;> rfl) (Nat.le_of_ble_eq_true rfl) ?_ hd ?_
  · rw [h.2.2.1, h.2.2.2, pF_Mod h]
    simp [up, List.set]
  · rw [h.2.2.1, h.2.2.2]
    exact kk
theorem gfN_Mod_again (C : Cx p s m args meth c cc nL own ret D cy g A) {index a : Nat} {o : Int} (h : isO g 4 a o) (hlink : Cond.fieldLinkNest own index "SlotFileModel" "again" "Z" "SlotFile" ∈ nestL) (hd : decode cc pc = .ok (.getfield index, 3)) (kk : G p l e R s m args below meth c nL cells slots Q D cy g A H0 V (pc + 3) lv (vI (V o 0 6) :: st)) : G p l e R s m args below meth c nL cells slots Q D cy g A H0 V pc lv (.ref a :: st) :=
  g_getN (Cn := RX4) (T := TX4) (N := 8) C in_Mod rfl h.1 (pF_Mod h V) 6 (by decide) hlink (v := vI (V o 0 6)) rfl hd kk
theorem gpN_Mod_again (C : Cx p s m args meth c cc nL own ret D cy g A) {index a : Nat} {o v : Int} (h : isO g 4 a o) (hz : v = 0 ∨ v = 1) (hlink : Cond.fieldLinkNest own index "SlotFileModel" "again" "Z" "SlotFile" ∈ nestL) (hd : decode cc pc = .ok (.putfield index, 3)) (kk : G p l e R s m args below meth c nL cells slots Q D cy g A H0 (up V o 0 6 v) (pc + 3) lv st) : G p l e R s m args below meth c nL cells slots Q D cy g A H0 V pc lv (vI v :: .ref a :: st) := by
  refine g_putN (Cn := RX4) (T := TX4) (N := 8) (ty := .boolean) (j := 6) C in_Mod tyX4 tyX4_ok nmX4 rfl h.1 (pF_Mod h V) 6 (by decide) hlink rfl (by decide +kernel) (by rcases hz with rfl | rfl <;> rfl) (by rcases hz with rfl | rfl <;> rfl) (Nat.le_of_ble_eq_true rfl) ?_ hd ?_
  · rw [h.2.2.1, h.2.2.2, pF_Mod h]
    simp [up, List.set]
  · rw [h.2.2.1, h.2.2.2]
    exact kk
theorem gf_Mod_thrown (C : Cx p s m args meth c cc nL own ret D cy g A) {index a : Nat} {o : Int} (h : isO g 4 a o) (hlink : Cond.fieldLink own index "SlotFileModel" "thrown" "I" ∈ wsG) (hd : decode cc pc = .ok (.getfield index, 3)) (kk : G p l e R s m args below meth c nL cells slots Q D cy g A H0 V (pc + 3) lv (vI (V o 0 7) :: st)) : G p l e R s m args below meth c nL cells slots Q D cy g A H0 V pc lv (.ref a :: st) :=
  g_get (Cn := RX4) (T := TX4) (N := 8) C in_Mod rfl h.1 (pF_Mod h V) 7 (by decide) hlink (v := vI (V o 0 7)) rfl hd kk
theorem gp_Mod_thrown (C : Cx p s m args meth c cc nL own ret D cy g A) {index a : Nat} {o v : Int} (h : isO g 4 a o) (hlink : Cond.fieldLink own index "SlotFileModel" "thrown" "I" ∈ wsG) (hd : decode cc pc = .ok (.putfield index, 3)) (kk : G p l e R s m args below meth c nL cells slots Q D cy g A H0 (up V o 0 7 v) (pc + 3) lv st) : G p l e R s m args below meth c nL cells slots Q D cy g A H0 V pc lv (vI v :: .ref a :: st) := by
  refine g_put (Cn := RX4) (T := TX4) (N := 8) (ty := .int) (j := 7) C in_Mod tyX4 tyX4_ok nmX4 rfl h.1 (pF_Mod h V) 7 (by decide) hlink rfl (by decide +kernel) rfl rfl (Nat.le_of_ble_eq_true rfl) ?_ hd ?_
  · rw [h.2.2.1, h.2.2.2, pF_Mod h]
    simp [up, List.set]
  · rw [h.2.2.1, h.2.2.2]
    exact kk
theorem gfN_Mod_thrown (C : Cx p s m args meth c cc nL own ret D cy g A) {index a : Nat} {o : Int} (h : isO g 4 a o) (hlink : Cond.fieldLinkNest own index "SlotFileModel" "thrown" "I" "SlotFile" ∈ nestL) (hd : decode cc pc = .ok (.getfield index, 3)) (kk : G p l e R s m args below meth c nL cells slots Q D cy g A H0 V (pc + 3) lv (vI (V o 0 7) :: st)) : G p l e R s m args below meth c nL cells slots Q D cy g A H0 V pc lv (.ref a :: st) :=
  g_getN (Cn := RX4) (T := TX4) (N := 8) C in_Mod rfl h.1 (pF_Mod h V) 7 (by decide) hlink (v := vI (V o 0 7)) rfl hd kk
theorem gpN_Mod_thrown (C : Cx p s m args meth c cc nL own ret D cy g A) {index a : Nat} {o v : Int} (h : isO g 4 a o) (hlink : Cond.fieldLinkNest own index "SlotFileModel" "thrown" "I" "SlotFile" ∈ nestL) (hd : decode cc pc = .ok (.putfield index, 3)) (kk : G p l e R s m args below meth c nL cells slots Q D cy g A H0 (up V o 0 7 v) (pc + 3) lv st) : G p l e R s m args below meth c nL cells slots Q D cy g A H0 V pc lv (vI v :: .ref a :: st) := by
  refine g_putN (Cn := RX4) (T := TX4) (N := 8) (ty := .int) (j := 7) C in_Mod tyX4 tyX4_ok nmX4 rfl h.1 (pF_Mod h V) 7 (by decide) hlink rfl (by decide +kernel) rfl rfl (Nat.le_of_ble_eq_true rfl) ?_ hd ?_
  · rw [h.2.2.1, h.2.2.2, pF_Mod h]
    simp [up, List.set]
  · rw [h.2.2.1, h.2.2.2]
    exact kk
end
