/-! the law's loop -/
def LwC (p : Program) (l : Launch) (s : State) (m : MethodId) (meth : Method) (c : Code) (D : va_G) (cy : ClassId × ClassId) (g : GT) (a am oa : Nat) (cL : ClassId) (b L : Nat) : Prop :=
  (l.stackTraces = false ∧ L ≤ 2048) ∧ Cx p s m #[Value.ref b] meth c cL_law 7 RL (some .boolean) D cy g (fun q => q ∈ gL g) ∧ isSf g a ∧ isMod g am 194 ∧ oa ∉ gL g ∧ b ∉ gL g ∧ b ≠ oa ∧ (∀ q, AL g oa q → s.heap.size ≤ q) ∧ va_K D vwCl [(cL, .long)] s ∧ va_Nc xIAE xNSE s
def lwl (a am oa b : Nat) (i : Int) : List (Nat × Value) := [(4, vI i), (3, .ref oa), (2, .ref am), (1, .ref a), (0, .ref b)]
def LG (p : Program) (l : Launch) (e : Env) (s : State) (m : MethodId) (below : List Frame) (meth : Method) (c : Code) (D : va_G) (cy : ClassId × ClassId) (g : GT) (b cells slots : Nat) (H0 : Heap) (V : VT) (pc : Nat) (lv : List (Nat × Value)) (st : List Value) : Prop :=
  G p l e room_1 s m #[Value.ref b] below meth c 7 cells slots (lw_Z below #[Value.ref b] s) D cy g (fun q => q ∈ gL g) H0 V pc lv st
def LoopAt (p : Program) (l : Launch) (e : Env) (s : State) (m : MethodId) (below : List Frame) (meth : Method) (c : Code) (D : va_G) (cy : ClassId × ClassId) (g : GT) (a am oa : Nat) (cL : ClassId) (b L : Nat) (xs : Nat → Int32) (k : Nat) : Prop :=
  ∀ (V : VT) (v : Int64) (H0 : Heap), FH g oa cL b L xs s v H0 → Inv V k → LG p l e s m below meth c D cy g b (974 + 2 * k) (82451 + 12 * k) H0 V 23 (lwl a am oa b (4 * k)) []
theorem lr_c : room_1.cells = 601024 := rfl
theorem lr_s : room_1.slots = 7293034 := rfl
theorem lw_end7 {p : Program} {l : Launch} {e : Env} {s : State} {m : MethodId} {below : List Frame} {meth : Method} {c : Code} {D : va_G} {cy : ClassId × ClassId} {g : GT} {a am oa b L : Nat} {cL : ClassId} {xs : Nat → Int32} {V : VT} {v : Int64} {H0 : Heap} {cells slots : Nat} {k : Nat} {x y : Int} (K : LwC p l s m meth c D cy g a am oa cL b L) (hLoop : LoopAt p l e s m below meth c D cy g a am oa cL b L xs (k + 1)) (F : FH g oa cL b L xs s v H0) (hI : Inv V (k + 1)) (h1 : cells ≤ 974 + 2 * (k + 1)) (h2 : slots ≤ 82451 + 12 * (k + 1)) : LG p l e s m below meth c D cy g b cells slots H0 V 758 [(6, vI y), (5, vI x), (4, vI (4 * k)), (3, .ref oa), (2, .ref am), (1, .ref a), (0, .ref b)] [] := by
  obtain ⟨⟨hl, hL⟩, C, hsf, hm, hno, hb, hbo, hge, hKL, hNc⟩ := K
  refine g_iinc C [(4, vI (4 * k + 4)), (6, vI y), (5, vI x), (3, .ref oa), (2, .ref am), (1, .ref a), (0, .ref b)] 2 rfl dL_law_758 (by decide) rfl ?_
  refine g_goto C 23 dL_law_761 (by decide) ?_
  intro H locs ls hP hS hl9
  refine W.widen h1 h2 ?_
  refine va_forget (fun q hq => hge _ (Or.inl (hS.2.2 q hq))) ?_
  refine hLoop V v H (F.kept hno hb hS) (by exact_mod_cast hI) H [] ls hP va_S.rf (lv_sub hl9 [0, 3, 4, 5, 6] ?_)
  unfold lwl
  rw [show (4 * ((k + 1 : Nat) : Int)) = 4 * k + 4 by omega]
  rfl
theorem lw_end5 {p : Program} {l : Launch} {e : Env} {s : State} {m : MethodId} {below : List Frame} {meth : Method} {c : Code} {D : va_G} {cy : ClassId × ClassId} {g : GT} {a am oa b L : Nat} {cL : ClassId} {xs : Nat → Int32} {V : VT} {v : Int64} {H0 : Heap} {cells slots : Nat} {k : Nat} (K : LwC p l s m meth c D cy g a am oa cL b L) (hLoop : LoopAt p l e s m below meth c D cy g a am oa cL b L xs (k + 1)) (F : FH g oa cL b L xs s v H0) (hI : Inv V (k + 1)) (h1 : cells ≤ 974 + 2 * (k + 1)) (h2 : slots ≤ 82451 + 12 * (k + 1)) : LG p l e s m below meth c D cy g b cells slots H0 V 758 [(4, vI (4 * k)), (3, .ref oa), (2, .ref am), (1, .ref a), (0, .ref b)] [] := by
  obtain ⟨⟨hl, hL⟩, C, hsf, hm, hno, hb, hbo, hge, hKL, hNc⟩ := K
  refine g_iinc C [(4, vI (4 * k + 4)), (3, .ref oa), (2, .ref am), (1, .ref a), (0, .ref b)] 0 rfl dL_law_758 (by decide) rfl ?_
  refine g_goto C 23 dL_law_761 (by decide) ?_
  intro H locs ls hP hS hl9
  refine W.widen h1 h2 ?_
  refine va_forget (fun q hq => hge _ (Or.inl (hS.2.2 q hq))) ?_
  refine hLoop V v H (F.kept hno hb hS) (by exact_mod_cast hI) H [] ls hP va_S.rf ?_
  unfold lwl
  rw [show (4 * ((k + 1 : Nat) : Int)) = 4 * k + 4 by omega]
  exact hl9
theorem lc_insert {p : Program} {l : Launch} {e : Env} {s : State} {m : MethodId} {below : List Frame} {meth : Method} {c : Code} {D : va_G} {cy : ClassId × ClassId} {g : GT} {a am oa b L : Nat} {cL : ClassId} {xs : Nat → Int32} {V : VT} {v : Int64} {H0 : Heap} {k : Nat} (K : LwC p l s m meth c D cy g a am oa cL b L) (hLoop : LoopAt p l e s m below meth c D cy g a am oa cL b L xs (k + 1)) (F : FH g oa cL b L xs s v H0) (hI : Inv V k) (hk : 4 * k + 4 ≤ L) : LG p l e s m below meth c D cy g b (974 + 2 * k) (82451 + 12 * k) H0 V 100 [(4, vI (4 * k)), (3, .ref oa), (2, .ref am), (1, .ref a), (0, .ref b)] [] := by
  obtain ⟨⟨hl, hL⟩, C, hsf, hm, hno, hb, hbo, hge, hKL, hNc⟩ := id K
  obtain ⟨x1, hx1, r1⟩ : ∃ x, (xs (4 * (k : Int) + 1).toNat).toInt = x ∧ rng x := ⟨_, rfl, rng_of _⟩
  obtain ⟨x2, hx2, r2⟩ : ∃ x, (xs (4 * (k : Int) + 2).toNat).toInt = x ∧ rng x := ⟨_, rfl, rng_of _⟩
  refine g_aload_n C 3 rfl dL_law_100 ?_
  refine g_aload_n C 4 rfl dL_law_101 ?_
  refine g_iload C 0 rfl dL_law_102 ?_
  refine g_iconst C 1 rfl dL_law_104 ?_
  refine g_iadd C dL_law_105 ?_
  refine g_sld C x1 hx1 F.2.1 hb (by omega) hL dL_law_106 ?_
  refine g_aload_n C 4 rfl dL_law_107 ?_
  refine g_iload C 0 rfl dL_law_108 ?_
  refine g_iconst C 2 rfl dL_law_110 ?_
  refine g_iadd C dL_law_111 ?_
  refine g_sld C x2 hx2 F.2.1 hb (by omega) hL dL_law_112 ?_
  refine g_aload_n C 1 rfl dL_law_113 ?_
  refine g_wcall C F hno hb hbo hge hKL hNc [.ref a, vI x1, vI x2, .ref oa] [] (o_insert l D cy g V hl a am oa cL v k C.2.2.2.1 hsf hm hno hI (by omega) x1 x2 r1 r2) lkw_47 rfl (by decide) ⟨by decide, by decide⟩ ⟨by rw [lr_c]; omega, by rw [lr_s]; omega⟩ dL_law_114 ?_
  rintro rc V1 v1 H1 ⟨hrc, hM⟩ F1
  refine g_istore C [(5, vI rc), (4, vI (4 * k)), (3, .ref oa), (2, .ref am), (1, .ref a), (0, .ref b)] dL_law_117 (by decide) rfl ?_
  refine g_aload_n C 3 rfl dL_law_119 ?_
  refine g_aload_n C 5 rfl dL_law_120 ?_
  refine g_iload C 1 rfl dL_law_121 ?_
  refine g_iconst C 1 rfl dL_law_123 ?_
  refine g_iadd C dL_law_124 ?_
  refine g_sld C x1 hx1 F1.2.1 hb (by omega) hL dL_law_125 ?_
  refine g_aload_n C 5 rfl dL_law_126 ?_
  refine g_iload C 1 rfl dL_law_127 ?_
  refine g_iconst C 2 rfl dL_law_129 ?_
  refine g_iadd C dL_law_130 ?_
  refine g_sld C x2 hx2 F1.2.1 hb (by omega) hL dL_law_131 ?_
  refine g_callI C [vI x1, vI x2] [] hM lm_L_52 (rcv_Mod hm.1) rfl (by decide) ⟨by decide, by decide⟩ ⟨by rw [lr_c]; omega, by rw [lr_s]; omega⟩ dL_law_132 ?_
  rintro rm V2 ⟨hI2, h7, hv⟩
  refine g_istore C [(6, vI rm), (5, vI rc), (4, vI (4 * k)), (3, .ref oa), (2, .ref am), (1, .ref a), (0, .ref b)] dL_law_135 (by decide) rfl ?_
  refine g_aload_n C 4 rfl dL_law_137 ?_
  refine g_callI C [] [] (c_thr l D cy g V2 am C.2.2.2.1 hm) lm_L_53 (rcv_Mod hm.1) rfl (by decide) ⟨by decide, by decide⟩ ⟨by rw [lr_c]; omega, by rw [lr_s]; omega⟩ dL_law_138 ?_
  rintro rt V3 ⟨hrt, hV3⟩
  subst hV3
  refine g_iload C 1 rfl dL_law_141 ?_
  refine g_icmpT C (hrt.trans h7) 148 dL_law_143 (by decide) ?_
  refine g_iload C 1 rfl dL_law_148 ?_
  refine g_if_ne C (by unfold rng; omega) 165 dL_law_150 (by decide) (fun c1 => ?_) (fun c1 => ?_)
  · refine g_goto C 758 dL_law_165 (by decide) ?_
    exact lw_end7 K hLoop F1 hI2 (by omega) (by omega)
  · obtain ⟨hv1, hE⟩ := hv c1
    refine g_aload_n C 3 rfl dL_law_153 ?_
    refine g_iconst C 0 rfl dL_law_154 ?_
    refine g_oald C F1.1 hno hKL dL_law_155 ?_
    refine g_iload C 0 rfl dL_law_156 ?_
    refine g_i2l C dL_law_158 ?_
    refine g_lcmpT C hv1 dL_law_159 ?_
    refine g_if_eq C rng0 165 dL_law_160 (by decide) (fun _ => ?_) (fun z => absurd rfl z)
    refine g_goto C 758 dL_law_165 (by decide) ?_
    exact lw_end7 K hLoop F1 hI2 (by omega) (by omega)
theorem lc_update {p : Program} {l : Launch} {e : Env} {s : State} {m : MethodId} {below : List Frame} {meth : Method} {c : Code} {D : va_G} {cy : ClassId × ClassId} {g : GT} {a am oa b L : Nat} {cL : ClassId} {xs : Nat → Int32} {V : VT} {v : Int64} {H0 : Heap} {k : Nat} (K : LwC p l s m meth c D cy g a am oa cL b L) (hLoop : LoopAt p l e s m below meth c D cy g a am oa cL b L xs (k + 1)) (F : FH g oa cL b L xs s v H0) (hI : Inv V k) (hk : 4 * k + 4 ≤ L) : LG p l e s m below meth c D cy g b (974 + 2 * k) (82451 + 12 * k) H0 V 168 [(4, vI (4 * k)), (3, .ref oa), (2, .ref am), (1, .ref a), (0, .ref b)] [] := by
  obtain ⟨⟨hl, hL⟩, C, hsf, hm, hno, hb, hbo, hge, hKL, hNc⟩ := id K
  obtain ⟨x1, hx1, r1⟩ : ∃ x, (xs (4 * (k : Int) + 1).toNat).toInt = x ∧ rng x := ⟨_, rfl, rng_of _⟩
  obtain ⟨x2, hx2, r2⟩ : ∃ x, (xs (4 * (k : Int) + 2).toNat).toInt = x ∧ rng x := ⟨_, rfl, rng_of _⟩
  obtain ⟨x3, hx3, r3⟩ : ∃ x, (xs (4 * (k : Int) + 3).toNat).toInt = x ∧ rng x := ⟨_, rfl, rng_of _⟩
  refine g_aload_n C 3 rfl dL_law_168 ?_
  refine g_aload_n C 4 rfl dL_law_169 ?_
  refine g_iload C 0 rfl dL_law_170 ?_
  refine g_iconst C 1 rfl dL_law_172 ?_
  refine g_iadd C dL_law_173 ?_
  refine g_sld C x1 hx1 F.2.1 hb (by omega) hL dL_law_174 ?_
  refine g_aload_n C 4 rfl dL_law_175 ?_
  refine g_iload C 0 rfl dL_law_176 ?_
  refine g_iconst C 2 rfl dL_law_178 ?_
  refine g_iadd C dL_law_179 ?_
  refine g_sld C x2 hx2 F.2.1 hb (by omega) hL dL_law_180 ?_
  refine g_aload_n C 4 rfl dL_law_181 ?_
  refine g_iload C 0 rfl dL_law_182 ?_
  refine g_iconst C 3 rfl dL_law_184 ?_
  refine g_iadd C dL_law_185 ?_
  refine g_sld C x3 hx3 F.2.1 hb (by omega) hL dL_law_186 ?_
  refine g_aload_n C 1 rfl dL_law_187 ?_
  refine g_wcall C F hno hb hbo hge hKL hNc [.ref a, vI x1, vI x2, vI x3, .ref oa] [] (o_update l D cy g V hl a am oa cL v k C.2.2.2.1 hsf hm hno hI (by omega) x1 x2 x3 r1 r2 r3) lkw_57 rfl (by decide) ⟨by decide, by decide⟩ ⟨by rw [lr_c]; omega, by rw [lr_s]; omega⟩ dL_law_188 ?_
  rintro rc V1 v1 H1 ⟨hrc, hM⟩ F1
  refine g_istore C [(5, vI rc), (4, vI (4 * k)), (3, .ref oa), (2, .ref am), (1, .ref a), (0, .ref b)] dL_law_191 (by decide) rfl ?_
  refine g_aload_n C 3 rfl dL_law_193 ?_
  refine g_aload_n C 5 rfl dL_law_194 ?_
  refine g_iload C 1 rfl dL_law_195 ?_
  refine g_iconst C 1 rfl dL_law_197 ?_
  refine g_iadd C dL_law_198 ?_
  refine g_sld C x1 hx1 F1.2.1 hb (by omega) hL dL_law_199 ?_
  refine g_aload_n C 5 rfl dL_law_200 ?_
  refine g_iload C 1 rfl dL_law_201 ?_
  refine g_iconst C 2 rfl dL_law_203 ?_
  refine g_iadd C dL_law_204 ?_
  refine g_sld C x2 hx2 F1.2.1 hb (by omega) hL dL_law_205 ?_
  refine g_aload_n C 5 rfl dL_law_206 ?_
  refine g_iload C 1 rfl dL_law_207 ?_
  refine g_iconst C 3 rfl dL_law_209 ?_
  refine g_iadd C dL_law_210 ?_
  refine g_sld C x3 hx3 F1.2.1 hb (by omega) hL dL_law_211 ?_
  refine g_callI C [vI x1, vI x2, vI x3] [] hM lm_L_60 (rcv_Mod hm.1) rfl (by decide) ⟨by decide, by decide⟩ ⟨by rw [lr_c]; omega, by rw [lr_s]; omega⟩ dL_law_212 ?_
  rintro rm V2 ⟨hI2, h7, hv⟩
  refine g_istore C [(6, vI rm), (5, vI rc), (4, vI (4 * k)), (3, .ref oa), (2, .ref am), (1, .ref a), (0, .ref b)] dL_law_215 (by decide) rfl ?_
  refine g_aload_n C 4 rfl dL_law_217 ?_
  refine g_callI C [] [] (c_thr l D cy g V2 am C.2.2.2.1 hm) lm_L_53 (rcv_Mod hm.1) rfl (by decide) ⟨by decide, by decide⟩ ⟨by rw [lr_c]; omega, by rw [lr_s]; omega⟩ dL_law_218 ?_
  rintro rt V3 ⟨hrt, hV3⟩
  subst hV3
  refine g_iload C 1 rfl dL_law_221 ?_
  refine g_icmpT C (hrt.trans h7) 228 dL_law_223 (by decide) ?_
  refine g_iload C 1 rfl dL_law_228 ?_
  refine g_if_ne C (by unfold rng; omega) 252 dL_law_230 (by decide) (fun c1 => ?_) (fun c1 => ?_)
  · refine g_goto C 758 dL_law_252 (by decide) ?_
    exact lw_end7 K hLoop F1 hI2 (by omega) (by omega)
  · obtain ⟨hv1, hE⟩ := hv c1
    refine g_aload_n C 3 rfl dL_law_233 ?_
    refine g_iconst C 0 rfl dL_law_234 ?_
    refine g_oald C F1.1 hno hKL dL_law_235 ?_
    refine g_iload C 0 rfl dL_law_236 ?_
    refine g_if_eq C (by unfold rng; omega) 245 dL_law_238 (by decide) (fun c2 => ?_) (fun c2 => ?_)
    · refine g_lconst C 0 rfl dL_law_245 ?_
      refine g_lcmpT C (by rw [hv1, c2]; rfl) dL_law_246 ?_
      refine g_if_eq C rng0 252 dL_law_247 (by decide) (fun _ => ?_) (fun z => absurd rfl z)
      refine g_goto C 758 dL_law_252 (by decide) ?_
      exact lw_end7 K hLoop F1 hI2 (by omega) (by omega)
    · refine g_lconst C 1 rfl dL_law_241 ?_
      refine g_goto C 246 dL_law_242 (by decide) ?_
      refine g_lcmpT C (by rw [hv1, show rm = 1 by omega]; rfl) dL_law_246 ?_
      refine g_if_eq C rng0 252 dL_law_247 (by decide) (fun _ => ?_) (fun z => absurd rfl z)
      refine g_goto C 758 dL_law_252 (by decide) ?_
      exact lw_end7 K hLoop F1 hI2 (by omega) (by omega)
theorem lc_delete {p : Program} {l : Launch} {e : Env} {s : State} {m : MethodId} {below : List Frame} {meth : Method} {c : Code} {D : va_G} {cy : ClassId × ClassId} {g : GT} {a am oa b L : Nat} {cL : ClassId} {xs : Nat → Int32} {V : VT} {v : Int64} {H0 : Heap} {k : Nat} (K : LwC p l s m meth c D cy g a am oa cL b L) (hLoop : LoopAt p l e s m below meth c D cy g a am oa cL b L xs (k + 1)) (F : FH g oa cL b L xs s v H0) (hI : Inv V k) (hk : 4 * k + 4 ≤ L) : LG p l e s m below meth c D cy g b (974 + 2 * k) (82451 + 12 * k) H0 V 255 [(4, vI (4 * k)), (3, .ref oa), (2, .ref am), (1, .ref a), (0, .ref b)] [] := by
  obtain ⟨⟨hl, hL⟩, C, hsf, hm, hno, hb, hbo, hge, hKL, hNc⟩ := id K
  obtain ⟨x1, hx1, r1⟩ : ∃ x, (xs (4 * (k : Int) + 1).toNat).toInt = x ∧ rng x := ⟨_, rfl, rng_of _⟩
  refine g_aload_n C 3 rfl dL_law_255 ?_
  refine g_aload_n C 4 rfl dL_law_256 ?_
  refine g_iload C 0 rfl dL_law_257 ?_
  refine g_iconst C 1 rfl dL_law_259 ?_
  refine g_iadd C dL_law_260 ?_
  refine g_sld C x1 hx1 F.2.1 hb (by omega) hL dL_law_261 ?_
  refine g_aload_n C 1 rfl dL_law_262 ?_
  refine g_wcall C F hno hb hbo hge hKL hNc [.ref a, vI x1, .ref oa] [] (o_delete l D cy g V hl a am oa cL v k C.2.2.2.1 hsf hm hno hI (by omega) x1 r1) lkw_61 rfl (by decide) ⟨by decide, by decide⟩ ⟨by rw [lr_c]; omega, by rw [lr_s]; omega⟩ dL_law_263 ?_
  rintro rc V1 v1 H1 ⟨hrc, hM⟩ F1
  refine g_istore C [(5, vI rc), (4, vI (4 * k)), (3, .ref oa), (2, .ref am), (1, .ref a), (0, .ref b)] dL_law_266 (by decide) rfl ?_
  refine g_aload_n C 3 rfl dL_law_268 ?_
  refine g_aload_n C 5 rfl dL_law_269 ?_
  refine g_iload C 1 rfl dL_law_270 ?_
  refine g_iconst C 1 rfl dL_law_272 ?_
  refine g_iadd C dL_law_273 ?_
  refine g_sld C x1 hx1 F1.2.1 hb (by omega) hL dL_law_274 ?_
  refine g_callI C [vI x1] [] hM lm_L_64 (rcv_Mod hm.1) rfl (by decide) ⟨by decide, by decide⟩ ⟨by rw [lr_c]; omega, by rw [lr_s]; omega⟩ dL_law_275 ?_
  rintro rm V2 ⟨hI2, h7, hv⟩
  refine g_istore C [(6, vI rm), (5, vI rc), (4, vI (4 * k)), (3, .ref oa), (2, .ref am), (1, .ref a), (0, .ref b)] dL_law_278 (by decide) rfl ?_
  refine g_aload_n C 4 rfl dL_law_280 ?_
  refine g_callI C [] [] (c_thr l D cy g V2 am C.2.2.2.1 hm) lm_L_53 (rcv_Mod hm.1) rfl (by decide) ⟨by decide, by decide⟩ ⟨by rw [lr_c]; omega, by rw [lr_s]; omega⟩ dL_law_281 ?_
  rintro rt V3 ⟨hrt, hV3⟩
  subst hV3
  refine g_iload C 1 rfl dL_law_284 ?_
  refine g_icmpT C (hrt.trans h7) 291 dL_law_286 (by decide) ?_
  refine g_iload C 1 rfl dL_law_291 ?_
  refine g_if_ne C (by unfold rng; omega) 308 dL_law_293 (by decide) (fun c1 => ?_) (fun c1 => ?_)
  · refine g_goto C 758 dL_law_308 (by decide) ?_
    exact lw_end7 K hLoop F1 hI2 (by omega) (by omega)
  · obtain ⟨hv1, hE⟩ := hv c1
    refine g_aload_n C 3 rfl dL_law_296 ?_
    refine g_iconst C 0 rfl dL_law_297 ?_
    refine g_oald C F1.1 hno hKL dL_law_298 ?_
    refine g_iload C 0 rfl dL_law_299 ?_
    refine g_i2l C dL_law_301 ?_
    refine g_lcmpT C hv1 dL_law_302 ?_
    refine g_if_eq C rng0 308 dL_law_303 (by decide) (fun _ => ?_) (fun z => absurd rfl z)
    refine g_goto C 758 dL_law_308 (by decide) ?_
    exact lw_end7 K hLoop F1 hI2 (by omega) (by omega)
theorem lc_length {p : Program} {l : Launch} {e : Env} {s : State} {m : MethodId} {below : List Frame} {meth : Method} {c : Code} {D : va_G} {cy : ClassId × ClassId} {g : GT} {a am oa b L : Nat} {cL : ClassId} {xs : Nat → Int32} {V : VT} {v : Int64} {H0 : Heap} {k : Nat} (K : LwC p l s m meth c D cy g a am oa cL b L) (hLoop : LoopAt p l e s m below meth c D cy g a am oa cL b L xs (k + 1)) (F : FH g oa cL b L xs s v H0) (hI : Inv V k) (hk : 4 * k + 4 ≤ L) : LG p l e s m below meth c D cy g b (974 + 2 * k) (82451 + 12 * k) H0 V 311 [(4, vI (4 * k)), (3, .ref oa), (2, .ref am), (1, .ref a), (0, .ref b)] [] := by
  obtain ⟨⟨hl, hL⟩, C, hsf, hm, hno, hb, hbo, hge, hKL, hNc⟩ := id K
  obtain ⟨x1, hx1, r1⟩ : ∃ x, (xs (4 * (k : Int) + 1).toNat).toInt = x ∧ rng x := ⟨_, rfl, rng_of _⟩
  refine g_aload_n C 3 rfl dL_law_311 ?_
  refine g_aload_n C 4 rfl dL_law_312 ?_
  refine g_iload C 0 rfl dL_law_313 ?_
  refine g_iconst C 1 rfl dL_law_315 ?_
  refine g_iadd C dL_law_316 ?_
  refine g_sld C x1 hx1 F.2.1 hb (by omega) hL dL_law_317 ?_
  refine g_callI C [vI x1] [] (o_length l D cy g V a am k C.2.2.2.1 hsf hm hI x1 r1) lm_L_65 (rcv_Sf hsf.1) rfl (by decide) ⟨by decide, by decide⟩ ⟨by rw [lr_c]; omega, by rw [lr_s]; omega⟩ dL_law_318 ?_
  intro r V1 hM
  refine g_aload_n C 2 rfl dL_law_321 ?_
  refine g_aload_n C 4 rfl dL_law_322 ?_
  refine g_iload C 0 rfl dL_law_323 ?_
  refine g_iconst C 1 rfl dL_law_325 ?_
  refine g_iadd C dL_law_326 ?_
  refine g_sld C x1 hx1 F.2.1 hb (by omega) hL dL_law_327 ?_
  refine g_callI C [vI x1] [vI r] hM lm_L_68 (rcv_Mod hm.1) rfl (by simp [vI, Value.category]) ⟨by decide, by decide⟩ ⟨by rw [lr_c]; omega, by rw [lr_s]; omega⟩ dL_law_328 ?_
  rintro rm V2 ⟨hI2, hrr⟩
  refine g_icmpT C hrr 758 dL_law_331 (by decide) ?_
  exact lw_end5 K hLoop F hI2 (by omega) (by omega)
theorem lc_byteAt {p : Program} {l : Launch} {e : Env} {s : State} {m : MethodId} {below : List Frame} {meth : Method} {c : Code} {D : va_G} {cy : ClassId × ClassId} {g : GT} {a am oa b L : Nat} {cL : ClassId} {xs : Nat → Int32} {V : VT} {v : Int64} {H0 : Heap} {k : Nat} (K : LwC p l s m meth c D cy g a am oa cL b L) (hLoop : LoopAt p l e s m below meth c D cy g a am oa cL b L xs (k + 1)) (F : FH g oa cL b L xs s v H0) (hI : Inv V k) (hk : 4 * k + 4 ≤ L) : LG p l e s m below meth c D cy g b (974 + 2 * k) (82451 + 12 * k) H0 V 336 [(4, vI (4 * k)), (3, .ref oa), (2, .ref am), (1, .ref a), (0, .ref b)] [] := by
  obtain ⟨⟨hl, hL⟩, C, hsf, hm, hno, hb, hbo, hge, hKL, hNc⟩ := id K
  obtain ⟨x1, hx1, r1⟩ : ∃ x, (xs (4 * (k : Int) + 1).toNat).toInt = x ∧ rng x := ⟨_, rfl, rng_of _⟩
  obtain ⟨x2, hx2, r2⟩ : ∃ x, (xs (4 * (k : Int) + 2).toNat).toInt = x ∧ rng x := ⟨_, rfl, rng_of _⟩
  refine g_aload_n C 3 rfl dL_law_336 ?_
  refine g_aload_n C 4 rfl dL_law_337 ?_
  refine g_iload C 0 rfl dL_law_338 ?_
  refine g_iconst C 1 rfl dL_law_340 ?_
  refine g_iadd C dL_law_341 ?_
  refine g_sld C x1 hx1 F.2.1 hb (by omega) hL dL_law_342 ?_
  refine g_aload_n C 4 rfl dL_law_343 ?_
  refine g_iload C 0 rfl dL_law_344 ?_
  refine g_iconst C 2 rfl dL_law_346 ?_
  refine g_iadd C dL_law_347 ?_
  refine g_sld C x2 hx2 F.2.1 hb (by omega) hL dL_law_348 ?_
  refine g_aload_n C 1 rfl dL_law_349 ?_
  refine g_wcall C F hno hb hbo hge hKL hNc [.ref a, vI x1, vI x2, .ref oa] [] (o_byteAt l D cy g V hl a am oa cL v k C.2.2.2.1 hsf hm hno hI (by omega) x1 x2 r1 r2) lkw_69 rfl (by decide) ⟨by decide, by decide⟩ ⟨by rw [lr_c]; omega, by rw [lr_s]; omega⟩ dL_law_350 ?_
  rintro rc V1 v1 H1 ⟨hrc, hM⟩ F1
  refine g_istore C [(5, vI rc), (4, vI (4 * k)), (3, .ref oa), (2, .ref am), (1, .ref a), (0, .ref b)] dL_law_353 (by decide) rfl ?_
  refine g_aload_n C 3 rfl dL_law_355 ?_
  refine g_aload_n C 5 rfl dL_law_356 ?_
  refine g_iload C 1 rfl dL_law_357 ?_
  refine g_iconst C 1 rfl dL_law_359 ?_
  refine g_iadd C dL_law_360 ?_
  refine g_sld C x1 hx1 F1.2.1 hb (by omega) hL dL_law_361 ?_
  refine g_aload_n C 5 rfl dL_law_362 ?_
  refine g_iload C 1 rfl dL_law_363 ?_
  refine g_iconst C 2 rfl dL_law_365 ?_
  refine g_iadd C dL_law_366 ?_
  refine g_sld C x2 hx2 F1.2.1 hb (by omega) hL dL_law_367 ?_
  refine g_callI C [vI x1, vI x2] [] hM lm_L_71 (rcv_Mod hm.1) rfl (by decide) ⟨by decide, by decide⟩ ⟨by rw [lr_c]; omega, by rw [lr_s]; omega⟩ dL_law_368 ?_
  rintro rm V2 ⟨hI2, h7, hv⟩
  refine g_istore C [(6, vI rm), (5, vI rc), (4, vI (4 * k)), (3, .ref oa), (2, .ref am), (1, .ref a), (0, .ref b)] dL_law_371 (by decide) rfl ?_
  refine g_aload_n C 4 rfl dL_law_373 ?_
  refine g_callI C [] [] (c_thr l D cy g V2 am C.2.2.2.1 hm) lm_L_53 (rcv_Mod hm.1) rfl (by decide) ⟨by decide, by decide⟩ ⟨by rw [lr_c]; omega, by rw [lr_s]; omega⟩ dL_law_374 ?_
  rintro rt V3 ⟨hrt, hV3⟩
  subst hV3
  refine g_iload C 1 rfl dL_law_377 ?_
  refine g_icmpT C (hrt.trans h7) 384 dL_law_379 (by decide) ?_
  refine g_iload C 1 rfl dL_law_384 ?_
  refine g_if_ne C (by unfold rng; omega) 401 dL_law_386 (by decide) (fun c1 => ?_) (fun c1 => ?_)
  · refine g_goto C 758 dL_law_401 (by decide) ?_
    exact lw_end7 K hLoop F1 hI2 (by omega) (by omega)
  · obtain ⟨hv1, hE⟩ := hv c1
    refine g_aload_n C 3 rfl dL_law_389 ?_
    refine g_iconst C 0 rfl dL_law_390 ?_
    refine g_oald C F1.1 hno hKL dL_law_391 ?_
    refine g_iload C 0 rfl dL_law_392 ?_
    refine g_i2l C dL_law_394 ?_
    refine g_lcmpT C hv1 dL_law_395 ?_
    refine g_if_eq C rng0 401 dL_law_396 (by decide) (fun _ => ?_) (fun z => absurd rfl z)
    refine g_goto C 758 dL_law_401 (by decide) ?_
    exact lw_end7 K hLoop F1 hI2 (by omega) (by omega)
theorem lc_where {p : Program} {l : Launch} {e : Env} {s : State} {m : MethodId} {below : List Frame} {meth : Method} {c : Code} {D : va_G} {cy : ClassId × ClassId} {g : GT} {a am oa b L : Nat} {cL : ClassId} {xs : Nat → Int32} {V : VT} {v : Int64} {H0 : Heap} {k : Nat} (K : LwC p l s m meth c D cy g a am oa cL b L) (hLoop : LoopAt p l e s m below meth c D cy g a am oa cL b L xs (k + 1)) (F : FH g oa cL b L xs s v H0) (hI : Inv V k) (hk : 4 * k + 4 ≤ L) : LG p l e s m below meth c D cy g b (974 + 2 * k) (82451 + 12 * k) H0 V 404 [(4, vI (4 * k)), (3, .ref oa), (2, .ref am), (1, .ref a), (0, .ref b)] [] := by
  obtain ⟨⟨hl, hL⟩, C, hsf, hm, hno, hb, hbo, hge, hKL, hNc⟩ := id K
  obtain ⟨x1, hx1, r1⟩ : ∃ x, (xs (4 * (k : Int) + 1).toNat).toInt = x ∧ rng x := ⟨_, rfl, rng_of _⟩
  obtain ⟨x2, hx2, r2⟩ : ∃ x, (xs (4 * (k : Int) + 2).toNat).toInt = x ∧ rng x := ⟨_, rfl, rng_of _⟩
  refine g_aload_n C 3 rfl dL_law_404 ?_
  refine g_aload_n C 4 rfl dL_law_405 ?_
  refine g_iload C 0 rfl dL_law_406 ?_
  refine g_iconst C 1 rfl dL_law_408 ?_
  refine g_iadd C dL_law_409 ?_
  refine g_sld C x1 hx1 F.2.1 hb (by omega) hL dL_law_410 ?_
  refine g_aload_n C 4 rfl dL_law_411 ?_
  refine g_iload C 0 rfl dL_law_412 ?_
  refine g_iconst C 2 rfl dL_law_414 ?_
  refine g_iadd C dL_law_415 ?_
  refine g_sld C x2 hx2 F.2.1 hb (by omega) hL dL_law_416 ?_
  refine g_aload_n C 1 rfl dL_law_417 ?_
  refine g_wcall C F hno hb hbo hge hKL hNc [.ref a, vI x1, vI x2, .ref oa] [] (o_where l D cy g V hl a am oa cL v k C.2.2.2.1 hsf hm hno hI (by omega) x1 x2 r1 r2) lkw_72 rfl (by decide) ⟨by decide, by decide⟩ ⟨by rw [lr_c]; omega, by rw [lr_s]; omega⟩ dL_law_418 ?_
  rintro rc V1 v1 H1 ⟨hrc, hM⟩ F1
  refine g_istore C [(5, vI rc), (4, vI (4 * k)), (3, .ref oa), (2, .ref am), (1, .ref a), (0, .ref b)] dL_law_421 (by decide) rfl ?_
  refine g_aload_n C 3 rfl dL_law_423 ?_
  refine g_aload_n C 5 rfl dL_law_424 ?_
  refine g_iload C 1 rfl dL_law_425 ?_
  refine g_iconst C 1 rfl dL_law_427 ?_
  refine g_iadd C dL_law_428 ?_
  refine g_sld C x1 hx1 F1.2.1 hb (by omega) hL dL_law_429 ?_
  refine g_aload_n C 5 rfl dL_law_430 ?_
  refine g_iload C 1 rfl dL_law_431 ?_
  refine g_iconst C 2 rfl dL_law_433 ?_
  refine g_iadd C dL_law_434 ?_
  refine g_sld C x2 hx2 F1.2.1 hb (by omega) hL dL_law_435 ?_
  refine g_callI C [vI x1, vI x2] [] hM lm_L_74 (rcv_Mod hm.1) rfl (by decide) ⟨by decide, by decide⟩ ⟨by rw [lr_c]; omega, by rw [lr_s]; omega⟩ dL_law_436 ?_
  rintro rm V2 ⟨hI2, h7, hv⟩
  refine g_istore C [(6, vI rm), (5, vI rc), (4, vI (4 * k)), (3, .ref oa), (2, .ref am), (1, .ref a), (0, .ref b)] dL_law_439 (by decide) rfl ?_
  refine g_aload_n C 4 rfl dL_law_441 ?_
  refine g_callI C [] [] (c_thr l D cy g V2 am C.2.2.2.1 hm) lm_L_53 (rcv_Mod hm.1) rfl (by decide) ⟨by decide, by decide⟩ ⟨by rw [lr_c]; omega, by rw [lr_s]; omega⟩ dL_law_442 ?_
  rintro rt V3 ⟨hrt, hV3⟩
  subst hV3
  refine g_iload C 1 rfl dL_law_445 ?_
  refine g_icmpT C (hrt.trans h7) 452 dL_law_447 (by decide) ?_
  refine g_iload C 1 rfl dL_law_452 ?_
  refine g_if_ne C (by unfold rng; omega) 469 dL_law_454 (by decide) (fun c1 => ?_) (fun c1 => ?_)
  · refine g_goto C 758 dL_law_469 (by decide) ?_
    exact lw_end7 K hLoop F1 hI2 (by omega) (by omega)
  · obtain ⟨hv1, hE⟩ := hv c1
    refine g_aload_n C 3 rfl dL_law_457 ?_
    refine g_iconst C 0 rfl dL_law_458 ?_
    refine g_oald C F1.1 hno hKL dL_law_459 ?_
    refine g_iload C 0 rfl dL_law_460 ?_
    refine g_i2l C dL_law_462 ?_
    refine g_lcmpT C hv1 dL_law_463 ?_
    refine g_if_eq C rng0 469 dL_law_464 (by decide) (fun _ => ?_) (fun z => absurd rfl z)
    refine g_goto C 758 dL_law_469 (by decide) ?_
    exact lw_end7 K hLoop F1 hI2 (by omega) (by omega)
theorem lc_next {p : Program} {l : Launch} {e : Env} {s : State} {m : MethodId} {below : List Frame} {meth : Method} {c : Code} {D : va_G} {cy : ClassId × ClassId} {g : GT} {a am oa b L : Nat} {cL : ClassId} {xs : Nat → Int32} {V : VT} {v : Int64} {H0 : Heap} {k : Nat} (K : LwC p l s m meth c D cy g a am oa cL b L) (hLoop : LoopAt p l e s m below meth c D cy g a am oa cL b L xs (k + 1)) (F : FH g oa cL b L xs s v H0) (hI : Inv V k) (hk : 4 * k + 4 ≤ L) : LG p l e s m below meth c D cy g b (974 + 2 * k) (82451 + 12 * k) H0 V 472 [(4, vI (4 * k)), (3, .ref oa), (2, .ref am), (1, .ref a), (0, .ref b)] [] := by
  obtain ⟨⟨hl, hL⟩, C, hsf, hm, hno, hb, hbo, hge, hKL, hNc⟩ := id K
  obtain ⟨x1, hx1, r1⟩ : ∃ x, (xs (4 * (k : Int) + 1).toNat).toInt = x ∧ rng x := ⟨_, rfl, rng_of _⟩
  refine g_aload_n C 3 rfl dL_law_472 ?_
  refine g_aload_n C 4 rfl dL_law_473 ?_
  refine g_iload C 0 rfl dL_law_474 ?_
  refine g_iconst C 1 rfl dL_law_476 ?_
  refine g_iadd C dL_law_477 ?_
  refine g_sld C x1 hx1 F.2.1 hb (by omega) hL dL_law_478 ?_
  refine g_callI C [vI x1] [] (o_next l D cy g V a am k C.2.2.2.1 hsf hm hI x1 r1) lm_L_75 (rcv_Sf hsf.1) rfl (by decide) ⟨by decide, by decide⟩ ⟨by rw [lr_c]; omega, by rw [lr_s]; omega⟩ dL_law_479 ?_
  intro r V1 hM
  refine g_aload_n C 2 rfl dL_law_482 ?_
  refine g_aload_n C 4 rfl dL_law_483 ?_
  refine g_iload C 0 rfl dL_law_484 ?_
  refine g_iconst C 1 rfl dL_law_486 ?_
  refine g_iadd C dL_law_487 ?_
  refine g_sld C x1 hx1 F.2.1 hb (by omega) hL dL_law_488 ?_
  refine g_callI C [vI x1] [vI r] hM lm_L_78 (rcv_Mod hm.1) rfl (by simp [vI, Value.category]) ⟨by decide, by decide⟩ ⟨by rw [lr_c]; omega, by rw [lr_s]; omega⟩ dL_law_489 ?_
  rintro rm V2 ⟨hI2, hrr⟩
  refine g_icmpT C hrr 758 dL_law_492 (by decide) ?_
  exact lw_end5 K hLoop F hI2 (by omega) (by omega)
theorem lc_page {p : Program} {l : Launch} {e : Env} {s : State} {m : MethodId} {below : List Frame} {meth : Method} {c : Code} {D : va_G} {cy : ClassId × ClassId} {g : GT} {a am oa b L : Nat} {cL : ClassId} {xs : Nat → Int32} {V : VT} {v : Int64} {H0 : Heap} {k : Nat} (K : LwC p l s m meth c D cy g a am oa cL b L) (hLoop : LoopAt p l e s m below meth c D cy g a am oa cL b L xs (k + 1)) (F : FH g oa cL b L xs s v H0) (hI : Inv V k) (hk : 4 * k + 4 ≤ L) : LG p l e s m below meth c D cy g b (974 + 2 * k) (82451 + 12 * k) H0 V 497 [(4, vI (4 * k)), (3, .ref oa), (2, .ref am), (1, .ref a), (0, .ref b)] [] := by
  obtain ⟨⟨hl, hL⟩, C, hsf, hm, hno, hb, hbo, hge, hKL, hNc⟩ := id K
  obtain ⟨x1, hx1, r1⟩ : ∃ x, (xs (4 * (k : Int) + 1).toNat).toInt = x ∧ rng x := ⟨_, rfl, rng_of _⟩
  obtain ⟨x2, hx2, r2⟩ : ∃ x, (xs (4 * (k : Int) + 2).toNat).toInt = x ∧ rng x := ⟨_, rfl, rng_of _⟩
  refine g_aload_n C 3 rfl dL_law_497 ?_
  refine g_aload_n C 4 rfl dL_law_498 ?_
  refine g_iload C 0 rfl dL_law_499 ?_
  refine g_iconst C 1 rfl dL_law_501 ?_
  refine g_iadd C dL_law_502 ?_
  refine g_sld C x1 hx1 F.2.1 hb (by omega) hL dL_law_503 ?_
  refine g_aload_n C 4 rfl dL_law_504 ?_
  refine g_iload C 0 rfl dL_law_505 ?_
  refine g_iconst C 2 rfl dL_law_507 ?_
  refine g_iadd C dL_law_508 ?_
  refine g_sld C x2 hx2 F.2.1 hb (by omega) hL dL_law_509 ?_
  refine g_aload_n C 1 rfl dL_law_510 ?_
  refine g_wcall C F hno hb hbo hge hKL hNc [.ref a, vI x1, vI x2, .ref oa] [] (o_page l D cy g V hl a am oa cL v k C.2.2.2.1 hsf hm hno hI (by omega) x1 x2 r1 r2) lkw_79 rfl (by decide) ⟨by decide, by decide⟩ ⟨by rw [lr_c]; omega, by rw [lr_s]; omega⟩ dL_law_511 ?_
  rintro rc V1 v1 H1 ⟨hrc, hM⟩ F1
  refine g_istore C [(5, vI rc), (4, vI (4 * k)), (3, .ref oa), (2, .ref am), (1, .ref a), (0, .ref b)] dL_law_514 (by decide) rfl ?_
  refine g_aload_n C 3 rfl dL_law_516 ?_
  refine g_aload_n C 5 rfl dL_law_517 ?_
  refine g_iload C 1 rfl dL_law_518 ?_
  refine g_iconst C 1 rfl dL_law_520 ?_
  refine g_iadd C dL_law_521 ?_
  refine g_sld C x1 hx1 F1.2.1 hb (by omega) hL dL_law_522 ?_
  refine g_aload_n C 5 rfl dL_law_523 ?_
  refine g_iload C 1 rfl dL_law_524 ?_
  refine g_iconst C 2 rfl dL_law_526 ?_
  refine g_iadd C dL_law_527 ?_
  refine g_sld C x2 hx2 F1.2.1 hb (by omega) hL dL_law_528 ?_
  refine g_callI C [vI x1, vI x2] [] hM lm_L_81 (rcv_Mod hm.1) rfl (by decide) ⟨by decide, by decide⟩ ⟨by rw [lr_c]; omega, by rw [lr_s]; omega⟩ dL_law_529 ?_
  rintro rm V2 ⟨hI2, h7, hv⟩
  refine g_istore C [(6, vI rm), (5, vI rc), (4, vI (4 * k)), (3, .ref oa), (2, .ref am), (1, .ref a), (0, .ref b)] dL_law_532 (by decide) rfl ?_
  refine g_aload_n C 4 rfl dL_law_534 ?_
  refine g_callI C [] [] (c_thr l D cy g V2 am C.2.2.2.1 hm) lm_L_53 (rcv_Mod hm.1) rfl (by decide) ⟨by decide, by decide⟩ ⟨by rw [lr_c]; omega, by rw [lr_s]; omega⟩ dL_law_535 ?_
  rintro rt V3 ⟨hrt, hV3⟩
  subst hV3
  refine g_iload C 1 rfl dL_law_538 ?_
  refine g_icmpT C (hrt.trans h7) 545 dL_law_540 (by decide) ?_
  refine g_iload C 1 rfl dL_law_545 ?_
  refine g_if_ne C (by unfold rng; omega) 562 dL_law_547 (by decide) (fun c1 => ?_) (fun c1 => ?_)
  · refine g_goto C 758 dL_law_562 (by decide) ?_
    exact lw_end7 K hLoop F1 hI2 (by omega) (by omega)
  · obtain ⟨hv1, hE⟩ := hv c1
    refine g_aload_n C 3 rfl dL_law_550 ?_
    refine g_iconst C 0 rfl dL_law_551 ?_
    refine g_oald C F1.1 hno hKL dL_law_552 ?_
    refine g_iload C 0 rfl dL_law_553 ?_
    refine g_i2l C dL_law_555 ?_
    refine g_lcmpT C hv1 dL_law_556 ?_
    refine g_if_eq C rng0 562 dL_law_557 (by decide) (fun _ => ?_) (fun z => absurd rfl z)
    refine g_goto C 758 dL_law_562 (by decide) ?_
    exact lw_end7 K hLoop F1 hI2 (by omega) (by omega)
theorem lc_slot {p : Program} {l : Launch} {e : Env} {s : State} {m : MethodId} {below : List Frame} {meth : Method} {c : Code} {D : va_G} {cy : ClassId × ClassId} {g : GT} {a am oa b L : Nat} {cL : ClassId} {xs : Nat → Int32} {V : VT} {v : Int64} {H0 : Heap} {k : Nat} (K : LwC p l s m meth c D cy g a am oa cL b L) (hLoop : LoopAt p l e s m below meth c D cy g a am oa cL b L xs (k + 1)) (F : FH g oa cL b L xs s v H0) (hI : Inv V k) (hk : 4 * k + 4 ≤ L) : LG p l e s m below meth c D cy g b (974 + 2 * k) (82451 + 12 * k) H0 V 565 [(4, vI (4 * k)), (3, .ref oa), (2, .ref am), (1, .ref a), (0, .ref b)] [] := by
  obtain ⟨⟨hl, hL⟩, C, hsf, hm, hno, hb, hbo, hge, hKL, hNc⟩ := id K
  obtain ⟨x1, hx1, r1⟩ : ∃ x, (xs (4 * (k : Int) + 1).toNat).toInt = x ∧ rng x := ⟨_, rfl, rng_of _⟩
  obtain ⟨x2, hx2, r2⟩ : ∃ x, (xs (4 * (k : Int) + 2).toNat).toInt = x ∧ rng x := ⟨_, rfl, rng_of _⟩
  refine g_aload_n C 3 rfl dL_law_565 ?_
  refine g_aload_n C 4 rfl dL_law_566 ?_
  refine g_iload C 0 rfl dL_law_567 ?_
  refine g_iconst C 1 rfl dL_law_569 ?_
  refine g_iadd C dL_law_570 ?_
  refine g_sld C x1 hx1 F.2.1 hb (by omega) hL dL_law_571 ?_
  refine g_aload_n C 4 rfl dL_law_572 ?_
  refine g_iload C 0 rfl dL_law_573 ?_
  refine g_iconst C 2 rfl dL_law_575 ?_
  refine g_iadd C dL_law_576 ?_
  refine g_sld C x2 hx2 F.2.1 hb (by omega) hL dL_law_577 ?_
  refine g_aload_n C 1 rfl dL_law_578 ?_
  refine g_wcall C F hno hb hbo hge hKL hNc [.ref a, vI x1, vI x2, .ref oa] [] (o_slot l D cy g V hl a am oa cL v k C.2.2.2.1 hsf hm hno hI (by omega) x1 x2 r1 r2) lkw_82 rfl (by decide) ⟨by decide, by decide⟩ ⟨by rw [lr_c]; omega, by rw [lr_s]; omega⟩ dL_law_579 ?_
  rintro rc V1 v1 H1 ⟨hrc, hM⟩ F1
  refine g_istore C [(5, vI rc), (4, vI (4 * k)), (3, .ref oa), (2, .ref am), (1, .ref a), (0, .ref b)] dL_law_582 (by decide) rfl ?_
  refine g_aload_n C 3 rfl dL_law_584 ?_
  refine g_aload_n C 5 rfl dL_law_585 ?_
  refine g_iload C 1 rfl dL_law_586 ?_
  refine g_iconst C 1 rfl dL_law_588 ?_
  refine g_iadd C dL_law_589 ?_
  refine g_sld C x1 hx1 F1.2.1 hb (by omega) hL dL_law_590 ?_
  refine g_aload_n C 5 rfl dL_law_591 ?_
  refine g_iload C 1 rfl dL_law_592 ?_
  refine g_iconst C 2 rfl dL_law_594 ?_
  refine g_iadd C dL_law_595 ?_
  refine g_sld C x2 hx2 F1.2.1 hb (by omega) hL dL_law_596 ?_
  refine g_callI C [vI x1, vI x2] [] hM lm_L_84 (rcv_Mod hm.1) rfl (by decide) ⟨by decide, by decide⟩ ⟨by rw [lr_c]; omega, by rw [lr_s]; omega⟩ dL_law_597 ?_
  rintro rm V2 ⟨hI2, h7, hv⟩
  refine g_istore C [(6, vI rm), (5, vI rc), (4, vI (4 * k)), (3, .ref oa), (2, .ref am), (1, .ref a), (0, .ref b)] dL_law_600 (by decide) rfl ?_
  refine g_aload_n C 4 rfl dL_law_602 ?_
  refine g_callI C [] [] (c_thr l D cy g V2 am C.2.2.2.1 hm) lm_L_53 (rcv_Mod hm.1) rfl (by decide) ⟨by decide, by decide⟩ ⟨by rw [lr_c]; omega, by rw [lr_s]; omega⟩ dL_law_603 ?_
  rintro rt V3 ⟨hrt, hV3⟩
  subst hV3
  refine g_iload C 1 rfl dL_law_606 ?_
  refine g_icmpT C (hrt.trans h7) 613 dL_law_608 (by decide) ?_
  refine g_iload C 1 rfl dL_law_613 ?_
  refine g_if_ne C (by unfold rng; omega) 630 dL_law_615 (by decide) (fun c1 => ?_) (fun c1 => ?_)
  · refine g_goto C 758 dL_law_630 (by decide) ?_
    exact lw_end7 K hLoop F1 hI2 (by omega) (by omega)
  · obtain ⟨hv1, hE⟩ := hv c1
    refine g_aload_n C 3 rfl dL_law_618 ?_
    refine g_iconst C 0 rfl dL_law_619 ?_
    refine g_oald C F1.1 hno hKL dL_law_620 ?_
    refine g_iload C 0 rfl dL_law_621 ?_
    refine g_i2l C dL_law_623 ?_
    refine g_lcmpT C hv1 dL_law_624 ?_
    refine g_if_eq C rng0 630 dL_law_625 (by decide) (fun _ => ?_) (fun z => absurd rfl z)
    refine g_goto C 758 dL_law_630 (by decide) ?_
    exact lw_end7 K hLoop F1 hI2 (by omega) (by omega)
theorem lc_sync {p : Program} {l : Launch} {e : Env} {s : State} {m : MethodId} {below : List Frame} {meth : Method} {c : Code} {D : va_G} {cy : ClassId × ClassId} {g : GT} {a am oa b L : Nat} {cL : ClassId} {xs : Nat → Int32} {V : VT} {v : Int64} {H0 : Heap} {k : Nat} (K : LwC p l s m meth c D cy g a am oa cL b L) (hLoop : LoopAt p l e s m below meth c D cy g a am oa cL b L xs (k + 1)) (F : FH g oa cL b L xs s v H0) (hI : Inv V k) (hk : 4 * k + 4 ≤ L) : LG p l e s m below meth c D cy g b (974 + 2 * k) (82451 + 12 * k) H0 V 633 [(4, vI (4 * k)), (3, .ref oa), (2, .ref am), (1, .ref a), (0, .ref b)] [] := by
  obtain ⟨⟨hl, hL⟩, C, hsf, hm, hno, hb, hbo, hge, hKL, hNc⟩ := id K
  refine g_aload_n C 3 rfl dL_law_633 ?_
  refine g_callI C [] [] (o_sync l D cy g V a am k C.2.2.2.1 hsf hm hI  ) lm_L_85 (rcv_Sf hsf.1) rfl (by decide) ⟨by decide, by decide⟩ ⟨by rw [lr_c]; omega, by rw [lr_s]; omega⟩ dL_law_634 ?_
  intro r V1 hM
  refine g_aload_n C 2 rfl dL_law_637 ?_
  refine g_callI C [] [vI r] hM lm_L_88 (rcv_Mod hm.1) rfl (by simp [vI, Value.category]) ⟨by decide, by decide⟩ ⟨by rw [lr_c]; omega, by rw [lr_s]; omega⟩ dL_law_638 ?_
  rintro rm V2 ⟨hI2, hrr⟩
  refine g_icmpT C hrr 758 dL_law_641 (by decide) ?_
  exact lw_end5 K hLoop F hI2 (by omega) (by omega)
theorem lc_crash {p : Program} {l : Launch} {e : Env} {s : State} {m : MethodId} {below : List Frame} {meth : Method} {c : Code} {D : va_G} {cy : ClassId × ClassId} {g : GT} {a am oa b L : Nat} {cL : ClassId} {xs : Nat → Int32} {V : VT} {v : Int64} {H0 : Heap} {k : Nat} (K : LwC p l s m meth c D cy g a am oa cL b L) (hLoop : LoopAt p l e s m below meth c D cy g a am oa cL b L xs (k + 1)) (F : FH g oa cL b L xs s v H0) (hI : Inv V k) (hk : 4 * k + 4 ≤ L) : LG p l e s m below meth c D cy g b (974 + 2 * k) (82451 + 12 * k) H0 V 646 [(4, vI (4 * k)), (3, .ref oa), (2, .ref am), (1, .ref a), (0, .ref b)] [] := by
  obtain ⟨⟨hl, hL⟩, C, hsf, hm, hno, hb, hbo, hge, hKL, hNc⟩ := id K
  obtain ⟨x1, hx1, r1⟩ : ∃ x, (xs (4 * (k : Int) + 1).toNat).toInt = x ∧ rng x := ⟨_, rfl, rng_of _⟩
  refine g_aload_n C 3 rfl dL_law_646 ?_
  refine g_aload_n C 4 rfl dL_law_647 ?_
  refine g_iload C 0 rfl dL_law_648 ?_
  refine g_iconst C 1 rfl dL_law_650 ?_
  refine g_iadd C dL_law_651 ?_
  refine g_sld C x1 hx1 F.2.1 hb (by omega) hL dL_law_652 ?_
  refine g_aload_n C 1 rfl dL_law_653 ?_
  refine g_wcall C F hno hb hbo hge hKL hNc [.ref a, vI x1, .ref oa] [] (o_crash l D cy g V hl a am oa cL v k C.2.2.2.1 hsf hm hno hI (by omega) x1 r1) lkw_89 rfl (by decide) ⟨by decide, by decide⟩ ⟨by rw [lr_c]; omega, by rw [lr_s]; omega⟩ dL_law_654 ?_
  rintro rc V1 v1 H1 ⟨hrc, hM⟩ F1
  refine g_istore C [(5, vI rc), (4, vI (4 * k)), (3, .ref oa), (2, .ref am), (1, .ref a), (0, .ref b)] dL_law_657 (by decide) rfl ?_
  refine g_aload_n C 3 rfl dL_law_659 ?_
  refine g_aload_n C 5 rfl dL_law_660 ?_
  refine g_iload C 1 rfl dL_law_661 ?_
  refine g_iconst C 1 rfl dL_law_663 ?_
  refine g_iadd C dL_law_664 ?_
  refine g_sld C x1 hx1 F1.2.1 hb (by omega) hL dL_law_665 ?_
  refine g_callI C [vI x1] [] hM lm_L_91 (rcv_Mod hm.1) rfl (by decide) ⟨by decide, by decide⟩ ⟨by rw [lr_c]; omega, by rw [lr_s]; omega⟩ dL_law_666 ?_
  rintro rm V2 ⟨hI2, h7, hv⟩
  refine g_istore C [(6, vI rm), (5, vI rc), (4, vI (4 * k)), (3, .ref oa), (2, .ref am), (1, .ref a), (0, .ref b)] dL_law_669 (by decide) rfl ?_
  refine g_aload_n C 4 rfl dL_law_671 ?_
  refine g_callI C [] [] (c_thr l D cy g V2 am C.2.2.2.1 hm) lm_L_53 (rcv_Mod hm.1) rfl (by decide) ⟨by decide, by decide⟩ ⟨by rw [lr_c]; omega, by rw [lr_s]; omega⟩ dL_law_672 ?_
  rintro rt V3 ⟨hrt, hV3⟩
  subst hV3
  refine g_iload C 1 rfl dL_law_675 ?_
  refine g_icmpT C (hrt.trans h7) 682 dL_law_677 (by decide) ?_
  refine g_iload C 1 rfl dL_law_682 ?_
  refine g_if_ne C (by unfold rng; omega) 699 dL_law_684 (by decide) (fun c1 => ?_) (fun c1 => ?_)
  · refine g_goto C 758 dL_law_699 (by decide) ?_
    exact lw_end7 K hLoop F1 hI2 (by omega) (by omega)
  · obtain ⟨hv1, hE⟩ := hv c1
    refine g_aload_n C 3 rfl dL_law_687 ?_
    refine g_iconst C 0 rfl dL_law_688 ?_
    refine g_oald C F1.1 hno hKL dL_law_689 ?_
    refine g_iload C 0 rfl dL_law_690 ?_
    refine g_i2l C dL_law_692 ?_
    refine g_lcmpT C hv1 dL_law_693 ?_
    refine g_if_eq C rng0 699 dL_law_694 (by decide) (fun _ => ?_) (fun z => absurd rfl z)
    refine g_goto C 758 dL_law_699 (by decide) ?_
    exact lw_end7 K hLoop F1 hI2 (by omega) (by omega)
theorem lc_total {p : Program} {l : Launch} {e : Env} {s : State} {m : MethodId} {below : List Frame} {meth : Method} {c : Code} {D : va_G} {cy : ClassId × ClassId} {g : GT} {a am oa b L : Nat} {cL : ClassId} {xs : Nat → Int32} {V : VT} {v : Int64} {H0 : Heap} {k : Nat} (K : LwC p l s m meth c D cy g a am oa cL b L) (hLoop : LoopAt p l e s m below meth c D cy g a am oa cL b L xs (k + 1)) (F : FH g oa cL b L xs s v H0) (hI : Inv V k) (hk : 4 * k + 4 ≤ L) : LG p l e s m below meth c D cy g b (974 + 2 * k) (82451 + 12 * k) H0 V 702 [(4, vI (4 * k)), (3, .ref oa), (2, .ref am), (1, .ref a), (0, .ref b)] [] := by
  obtain ⟨⟨hl, hL⟩, C, hsf, hm, hno, hb, hbo, hge, hKL, hNc⟩ := id K
  obtain ⟨x1, hx1, r1⟩ : ∃ x, (xs (4 * (k : Int) + 1).toNat).toInt = x ∧ rng x := ⟨_, rfl, rng_of _⟩
  refine g_aload_n C 3 rfl dL_law_702 ?_
  refine g_aload_n C 4 rfl dL_law_703 ?_
  refine g_iload C 0 rfl dL_law_704 ?_
  refine g_iconst C 1 rfl dL_law_706 ?_
  refine g_iadd C dL_law_707 ?_
  refine g_sld C x1 hx1 F.2.1 hb (by omega) hL dL_law_708 ?_
  refine g_aload_n C 1 rfl dL_law_709 ?_
  refine g_wcall C F hno hb hbo hge hKL hNc [.ref a, vI x1, .ref oa] [] (o_total l D cy g V hl a am oa cL v k C.2.2.2.1 hsf hm hno hI (by omega) x1 r1) lkw_92 rfl (by decide) ⟨by decide, by decide⟩ ⟨by rw [lr_c]; omega, by rw [lr_s]; omega⟩ dL_law_710 ?_
  rintro rc V1 v1 H1 ⟨hrc, hM⟩ F1
  refine g_istore C [(5, vI rc), (4, vI (4 * k)), (3, .ref oa), (2, .ref am), (1, .ref a), (0, .ref b)] dL_law_713 (by decide) rfl ?_
  refine g_aload_n C 3 rfl dL_law_715 ?_
  refine g_aload_n C 5 rfl dL_law_716 ?_
  refine g_iload C 1 rfl dL_law_717 ?_
  refine g_iconst C 1 rfl dL_law_719 ?_
  refine g_iadd C dL_law_720 ?_
  refine g_sld C x1 hx1 F1.2.1 hb (by omega) hL dL_law_721 ?_
  refine g_callI C [vI x1] [] hM lm_L_94 (rcv_Mod hm.1) rfl (by decide) ⟨by decide, by decide⟩ ⟨by rw [lr_c]; omega, by rw [lr_s]; omega⟩ dL_law_722 ?_
  rintro rm V2 ⟨hI2, h7, hv⟩
  refine g_istore C [(6, vI rm), (5, vI rc), (4, vI (4 * k)), (3, .ref oa), (2, .ref am), (1, .ref a), (0, .ref b)] dL_law_725 (by decide) rfl ?_
  refine g_aload_n C 4 rfl dL_law_727 ?_
  refine g_callI C [] [] (c_thr l D cy g V2 am C.2.2.2.1 hm) lm_L_53 (rcv_Mod hm.1) rfl (by decide) ⟨by decide, by decide⟩ ⟨by rw [lr_c]; omega, by rw [lr_s]; omega⟩ dL_law_728 ?_
  rintro rt V3 ⟨hrt, hV3⟩
  subst hV3
  refine g_iload C 1 rfl dL_law_731 ?_
  refine g_icmpT C (hrt.trans h7) 738 dL_law_733 (by decide) ?_
  refine g_iload C 1 rfl dL_law_738 ?_
  refine g_if_ne C (by unfold rng; omega) 755 dL_law_740 (by decide) (fun c1 => ?_) (fun c1 => ?_)
  · refine g_goto C 758 dL_law_755 (by decide) ?_
    exact lw_end7 K hLoop F1 hI2 (by omega) (by omega)
  · obtain ⟨hv1, hE⟩ := hv c1
    refine g_aload_n C 3 rfl dL_law_743 ?_
    refine g_iconst C 0 rfl dL_law_744 ?_
    refine g_oald C F1.1 hno hKL dL_law_745 ?_
    refine g_iload C 0 rfl dL_law_746 ?_
    refine g_i2l C dL_law_748 ?_
    refine g_lcmpT C hv1 dL_law_749 ?_
    refine g_if_eq C rng0 755 dL_law_750 (by decide) (fun _ => ?_) (fun z => absurd rfl z)
    refine g_goto C 758 dL_law_755 (by decide) ?_
    exact lw_end7 K hLoop F1 hI2 (by omega) (by omega)
theorem inv_mono {V : VT} {k : Int} (h : Inv V k) : Inv V (k + 1) := by
  obtain ⟨h1, h2, h3, ⟨g1, g2, g3, g4, g5, g6⟩, h5⟩ := h
  exact ⟨h1, h2, h3, ⟨g1, g2, g3, g4, g5, by omega⟩, h5⟩
theorem g_lsw {p : Program} {l : Launch} {e : Env} {R : Room} {s : State} {m : MethodId} {args : Array Value} {below : List Frame} {meth : Method} {c : Code} {cells slots nL : Nat} {Q : State → Prop} {own : String} {ret : Option FieldType} {D : va_G} {cy : ClassId × ClassId} {g : GT} {A : Nat → Prop} {H0 : Heap} {V : VT} {lv : List (Nat × Value)} {st : List Value} {cc : ByteArray} (C : Cx p s m args meth c cc nL own ret D cy g A) {y : Int} (y0 : 0 ≤ y) (y15 : y ≤ 15) (hd : decode cc 39 = .ok (.tableswitch 719 0 11 #[61, 129, 216, 272, 297, 365, 433, 458, 526, 594, 607, 663], 61))
    (k0 : G p l e R s m args below meth c nL cells slots Q D cy g A H0 V 100 lv st)
    (k1 : G p l e R s m args below meth c nL cells slots Q D cy g A H0 V 168 lv st)
    (k2 : G p l e R s m args below meth c nL cells slots Q D cy g A H0 V 255 lv st)
    (k3 : G p l e R s m args below meth c nL cells slots Q D cy g A H0 V 311 lv st)
    (k4 : G p l e R s m args below meth c nL cells slots Q D cy g A H0 V 336 lv st)
    (k5 : G p l e R s m args below meth c nL cells slots Q D cy g A H0 V 404 lv st)
    (k6 : G p l e R s m args below meth c nL cells slots Q D cy g A H0 V 472 lv st)
    (k7 : G p l e R s m args below meth c nL cells slots Q D cy g A H0 V 497 lv st)
    (k8 : G p l e R s m args below meth c nL cells slots Q D cy g A H0 V 565 lv st)
    (k9 : G p l e R s m args below meth c nL cells slots Q D cy g A H0 V 633 lv st)
    (k10 : G p l e R s m args below meth c nL cells slots Q D cy g A H0 V 646 lv st)
    (k11 : G p l e R s m args below meth c nL cells slots Q D cy g A H0 V 702 lv st)
    (kd : G p l e R s m args below meth c nL cells slots Q D cy g A H0 V 758 lv st) : G p l e R s m args below meth c nL cells slots Q D cy g A H0 V 39 lv (vI y :: st) := by
  intro H locs ls hP hS hl
  have hy : (iI y).toInt = y := iI_toInt (by unfold rng; omega)
  by_cases h : 11 < y
  · exact lv_tableOut C.1.1 C.1.2.1 hd (Or.inr (by rw [hy]; exact h)) (by decide) (kd H locs ls hP hS hl)
  · have hc : y = 0 ∨ y = 1 ∨ y = 2 ∨ y = 3 ∨ y = 4 ∨ y = 5 ∨ y = 6 ∨ y = 7 ∨ y = 8 ∨ y = 9 ∨ y = 10 ∨ y = 11 := by omega
    rcases hc with rfl | rfl | rfl | rfl | rfl | rfl | rfl | rfl | rfl | rfl | rfl | rfl
    · exact lv_tableIn (off := 61) C.1.1 C.1.2.1 hd (by rw [hy]; decide) (by rw [hy]; decide) (by rw [hy]; rfl) (by decide) (k0 H locs ls hP hS hl)
    · exact lv_tableIn (off := 129) C.1.1 C.1.2.1 hd (by rw [hy]; decide) (by rw [hy]; decide) (by rw [hy]; rfl) (by decide) (k1 H locs ls hP hS hl)
    · exact lv_tableIn (off := 216) C.1.1 C.1.2.1 hd (by rw [hy]; decide) (by rw [hy]; decide) (by rw [hy]; rfl) (by decide) (k2 H locs ls hP hS hl)
    · exact lv_tableIn (off := 272) C.1.1 C.1.2.1 hd (by rw [hy]; decide) (by rw [hy]; decide) (by rw [hy]; rfl) (by decide) (k3 H locs ls hP hS hl)
    · exact lv_tableIn (off := 297) C.1.1 C.1.2.1 hd (by rw [hy]; decide) (by rw [hy]; decide) (by rw [hy]; rfl) (by decide) (k4 H locs ls hP hS hl)
    · exact lv_tableIn (off := 365) C.1.1 C.1.2.1 hd (by rw [hy]; decide) (by rw [hy]; decide) (by rw [hy]; rfl) (by decide) (k5 H locs ls hP hS hl)
    · exact lv_tableIn (off := 433) C.1.1 C.1.2.1 hd (by rw [hy]; decide) (by rw [hy]; decide) (by rw [hy]; rfl) (by decide) (k6 H locs ls hP hS hl)
    · exact lv_tableIn (off := 458) C.1.1 C.1.2.1 hd (by rw [hy]; decide) (by rw [hy]; decide) (by rw [hy]; rfl) (by decide) (k7 H locs ls hP hS hl)
    · exact lv_tableIn (off := 526) C.1.1 C.1.2.1 hd (by rw [hy]; decide) (by rw [hy]; decide) (by rw [hy]; rfl) (by decide) (k8 H locs ls hP hS hl)
    · exact lv_tableIn (off := 594) C.1.1 C.1.2.1 hd (by rw [hy]; decide) (by rw [hy]; decide) (by rw [hy]; rfl) (by decide) (k9 H locs ls hP hS hl)
    · exact lv_tableIn (off := 607) C.1.1 C.1.2.1 hd (by rw [hy]; decide) (by rw [hy]; decide) (by rw [hy]; rfl) (by decide) (k10 H locs ls hP hS hl)
    · exact lv_tableIn (off := 663) C.1.1 C.1.2.1 hd (by rw [hy]; decide) (by rw [hy]; decide) (by rw [hy]; rfl) (by decide) (k11 H locs ls hP hS hl)
theorem lw_loop {p : Program} {l : Launch} {e : Env} {s : State} {m : MethodId} {below : List Frame} {meth : Method} {c : Code} {D : va_G} {cy : ClassId × ClassId} {g : GT} {a am oa b L : Nat} {cL : ClassId} {xs : Nat → Int32} (K : LwC p l s m meth c D cy g a am oa cL b L) (n : Nat) : ∀ k : Nat, L < 4 * k + 4 + 4 * n → 4 * k ≤ L → LoopAt p l e s m below meth c D cy g a am oa cL b L xs k := by
  obtain ⟨⟨hl, hL⟩, C, hsf, hm, hno, hb, hbo, hge, hKL, hNc⟩ := id K
  have hend : ∀ (k : Nat) (V : VT) (v : Int64) (H0 : Heap) (lv : List (Nat × Value)), 4 * k ≤ L → LG p l e s m below meth c D cy g b (974 + 2 * k) (82451 + 12 * k) H0 V 764 lv [] := by
    intro k V v H0 lv hk
    refine g_iconst C 1 rfl dL_law_764 ?_
    intro H locs ls hP hS hl9
    refine W.widen (k := 601024) (n := 7293034) (by omega) (by omega) ?_
    refine va_forget (fun q hq => hge _ (Or.inl (hS.2.2 q hq))) ?_
    exact lw_ret C.1.1 C.1.2.1 C.2.2.2.2.2.1 C.2.2.2.2.2.2 dL_law_765
  induction n with
  | zero =>
    intro k h1 h2 V v H0 F hI
    unfold LG lwl
    refine g_iload C 0 rfl dL_law_23 ?_
    refine g_aload_n C 4 rfl dL_law_25 ?_
    refine g_slen C F.2.1 hb dL_law_26 ?_
    refine g_iconst C 4 rfl dL_law_27 ?_
    refine g_isub C dL_law_28 ?_
    refine g_icmp_gt C (by unfold rng; omega) (by unfold rng; omega) 764 dL_law_29 (by decide) (fun c1 => ?_) (fun c1 => absurd c1 (by omega))
    exact hend k V v H0 _ h2
  | succ n ih =>
    intro k h1 h2 V v H0 F hI
    unfold LG lwl
    refine g_iload C 0 rfl dL_law_23 ?_
    refine g_aload_n C 4 rfl dL_law_25 ?_
    refine g_slen C F.2.1 hb dL_law_26 ?_
    refine g_iconst C 4 rfl dL_law_27 ?_
    refine g_isub C dL_law_28 ?_
    refine g_icmp_gt C (by unfold rng; omega) (by unfold rng; omega) 764 dL_law_29 (by decide) (fun c1 => ?_) (fun c1 => ?_)
    · exact hend k V v H0 _ h2
    · have hk : 4 * k + 4 ≤ L := by omega
      have hLoop := ih (k + 1) (by omega) (by omega)
      refine g_aload_n C 4 rfl dL_law_32 ?_
      refine g_iload C 0 rfl dL_law_33 ?_
      refine g_sld C _ rfl F.2.1 hb (by omega) hL dL_law_35 ?_
      refine g_bipush C 15 rfl dL_law_36 ?_
      refine g_iand15 C dL_law_38 (fun y y0 y15 => ?_)
      refine g_lsw C y0 y15 dL_law_39 (lc_insert K hLoop F hI hk) (lc_update K hLoop F hI hk) (lc_delete K hLoop F hI hk) (lc_length K hLoop F hI hk) (lc_byteAt K hLoop F hI hk) (lc_where K hLoop F hI hk) (lc_next K hLoop F hI hk) (lc_page K hLoop F hI hk) (lc_slot K hLoop F hI hk) (lc_sync K hLoop F hI hk) (lc_crash K hLoop F hI hk) (lc_total K hLoop F hI hk) ?_
      exact lw_end5 K hLoop F (inv_mono hI) (by omega) (by omega)
