theorem p7 (w : Int → Int → Int) (v p : Int) : mSl (upw w 0 7 v) p 32 = mSl w p 32 ∧ mTk (upw w 0 7 v) p = mTk w p ∧ mCe (upw w 0 7 v) p = mCe w p ∧ mRoom (upw w 0 7 v) p = mRoom w p := mPg_eq (fun s _ _ => by unfold mSz; rw [upw_t (by decide)])
theorem p7k (w : Int → Int → Int) (v p s : Int) : mKd (upw w 0 7 v) p s = mKd w p s := by unfold mKd mSz; simp only [upw_t (show (1 : Int) ≠ 0 by decide)]
theorem p7s (w : Int → Int → Int) (v p : Int) : sumF (mSt (upw w 0 7 v) p) 32 = sumF (mSt w p) 32 := sumF_congr (fun s _ _ => by unfold mSt; rw [p7k])
theorem p7r (w : Int → Int → Int) (v z : Int) (n : Nat) : sumF (mRc (upw w 0 7 v) z) n = sumF (mRc w z) n := sumF_congr (fun s _ _ => by unfold mRc; simp only [upw_t (show (1 : Int) ≠ 0 by decide)])
def mPage (w : Int → Int → Int) (p k : Int) : Int :=
  if k = 0 then w 1 p else if ¬ w 1 p = (if k < 7 then 1 else 2) then -1 else if k = 1 then mSl w p 32 else if k = 2 then mCe w p else if k = 3 then mRoom w p else if k = 4 then w 1 (96 + p) else if k = 5 then mRoom w p / 31 else if k = 6 then sumF (mSt w p) 32 else if k = 7 then w 1 (192 + p) else w 1 (288 + p)
def mSlotA (w : Int → Int → Int) (p s : Int) : Int := if ¬ w 1 p = 1 ∨ mSl w p 32 ≤ s then -1 else mKd w p s
def mTotal (w : Int → Int → Int) (k : Int) : Int :=
  if k = 0 then sumF (mRc w 0) 3072 else if k = 1 then cntK (w 1) 0 96 else if k = 2 then cntK (w 1) 1 96 else if k = 3 then cntK (w 1) 2 96 else if k = 4 then sumF (mRc w 1) 3072 else if k = 5 then w 0 3 else if k = 6 then w 0 4 else w 0 5
set_option maxHeartbeats 4000000 in
set_option maxRecDepth 100000 in
theorem c_X4_page (l : Launch) (D : va_G) (cy : ClassId × ClassId) (g : GT) (V : VT) (w : Int → Int → Int) (a : Nat) (o : Int) (p k : Int) (hap : Apart g) (hm : isMod g a o) (hw : mwf w) (hp9 : rng p) (hk9 : rng k) (hroom : 0 ≤ p ∧ p < 96 → w 1 p = 1 → 0 ≤ mRoom w p ∧ mRoom w p ≤ 248) : MetI l yX4_page cX4_page 3 (some .int) 3 D cy g [.ref a, vI p, vI k] (setp V o w) (fun r V' => (¬ ((0 ≤ p ∧ p < 96) ∧ (0 ≤ k ∧ k ≤ 8)) ∧ r = 0 ∧ V' = setp V o (upw w 0 7 1)) ∨ (((0 ≤ p ∧ p < 96) ∧ (0 ≤ k ∧ k ≤ 8)) ∧ r = mPage w p k ∧ V' = setp V o (upw w 0 7 0))) := by
  obtain ⟨hm1, r1, r2, r3, ⟨hr1, ha1⟩, ⟨hr2, ha2⟩, ⟨hr3, ha3⟩⟩ := id hm
  unfold rng at hp9 hk9
  refine MetI.of (by decide) (Nat.le_of_ble_eq_true rfl) hap ?_
  intro p_ e_ s_ m_ args_ below_ meth_ c_ C
  refine g_aload_n C 0 rfl dX4_page_0 ?_
  refine g_iload_n C 1 rfl dX4_page_1 ?_
  refine g_if_lt C (by unfold rng; omega) 21 dX4_page_2 (by decide) (fun c2 => ?_) (fun c2 => ?_)
  · refine g_iconst C 1 rfl dX4_page_21 ?_
    refine g_goto C 26 dX4_page_22 (by decide) ?_
    refine g_iconst C 1 rfl dX4_page_26 ?_
    refine g_callI C [vI 1, vI 1] [] (c_X4_fails l D cy g V w a o 1 1 hap hm (by omega)) lm_X4_102 (rcv_Mod hm.1) rfl (Nat.le_of_ble_eq_true rfl) ⟨(Nat.le_of_ble_eq_true rfl), (Nat.le_of_ble_eq_true rfl)⟩ ⟨Nat.zero_le _, Nat.zero_le _⟩ dX4_page_27 ?_
    rintro _ _ ⟨rfl, rfl⟩
    rw [show (if (1 : Int) = 1 then (1 : Int) else 0) = 1 from rfl]
    refine g_if_eq C (by unfold rng; omega) 35 dX4_page_30 (by decide) (fun c30 => absurd c30 (by omega)) (fun c30 => ?_)
    refine g_iconst C 0 rfl dX4_page_33 ?_
    exact g_iret C dX4_page_34 (Or.inl ⟨by omega, rfl, rfl⟩)
  · refine g_iload_n C 1 rfl dX4_page_5 ?_
    refine g_bipush C 96 rfl dX4_page_6 ?_
    refine g_icmp_ge C (by unfold rng; omega) (by unfold rng; omega) 21 dX4_page_8 (by decide) (fun c8 => ?_) (fun c8 => ?_)
    · refine g_iconst C 1 rfl dX4_page_21 ?_
      refine g_goto C 26 dX4_page_22 (by decide) ?_
      refine g_iconst C 1 rfl dX4_page_26 ?_
      refine g_callI C [vI 1, vI 1] [] (c_X4_fails l D cy g V w a o 1 1 hap hm (by omega)) lm_X4_102 (rcv_Mod hm.1) rfl (Nat.le_of_ble_eq_true rfl) ⟨(Nat.le_of_ble_eq_true rfl), (Nat.le_of_ble_eq_true rfl)⟩ ⟨Nat.zero_le _, Nat.zero_le _⟩ dX4_page_27 ?_
      rintro _ _ ⟨rfl, rfl⟩
      rw [show (if (1 : Int) = 1 then (1 : Int) else 0) = 1 from rfl]
      refine g_if_eq C (by unfold rng; omega) 35 dX4_page_30 (by decide) (fun c30 => absurd c30 (by omega)) (fun c30 => ?_)
      refine g_iconst C 0 rfl dX4_page_33 ?_
      exact g_iret C dX4_page_34 (Or.inl ⟨by omega, rfl, rfl⟩)
    · refine g_iload_n C 2 rfl dX4_page_11 ?_
      refine g_if_lt C (by unfold rng; omega) 21 dX4_page_12 (by decide) (fun c12 => ?_) (fun c12 => ?_)
      · refine g_iconst C 1 rfl dX4_page_21 ?_
        refine g_goto C 26 dX4_page_22 (by decide) ?_
        refine g_iconst C 1 rfl dX4_page_26 ?_
        refine g_callI C [vI 1, vI 1] [] (c_X4_fails l D cy g V w a o 1 1 hap hm (by omega)) lm_X4_102 (rcv_Mod hm.1) rfl (Nat.le_of_ble_eq_true rfl) ⟨(Nat.le_of_ble_eq_true rfl), (Nat.le_of_ble_eq_true rfl)⟩ ⟨Nat.zero_le _, Nat.zero_le _⟩ dX4_page_27 ?_
        rintro _ _ ⟨rfl, rfl⟩
        rw [show (if (1 : Int) = 1 then (1 : Int) else 0) = 1 from rfl]
        refine g_if_eq C (by unfold rng; omega) 35 dX4_page_30 (by decide) (fun c30 => absurd c30 (by omega)) (fun c30 => ?_)
        refine g_iconst C 0 rfl dX4_page_33 ?_
        exact g_iret C dX4_page_34 (Or.inl ⟨by omega, rfl, rfl⟩)
      · refine g_iload_n C 2 rfl dX4_page_15 ?_
        refine g_bipush C 8 rfl dX4_page_16 ?_
        refine g_icmp_le C (by unfold rng; omega) (by unfold rng; omega) 25 dX4_page_18 (by decide) (fun c18 => ?_) (fun c18 => ?_)
        · refine g_iconst C 0 rfl dX4_page_25 ?_
          refine g_iconst C 1 rfl dX4_page_26 ?_
          refine g_callI C [vI 0, vI 1] [] (c_X4_fails l D cy g V w a o 0 1 hap hm (by omega)) lm_X4_102 (rcv_Mod hm.1) rfl (Nat.le_of_ble_eq_true rfl) ⟨(Nat.le_of_ble_eq_true rfl), (Nat.le_of_ble_eq_true rfl)⟩ ⟨Nat.zero_le _, Nat.zero_le _⟩ dX4_page_27 ?_
          rintro _ _ ⟨rfl, rfl⟩
          rw [show (if (0 : Int) = 1 then (1 : Int) else 0) = 0 from rfl]
          refine g_if_eq C (by unfold rng; omega) 35 dX4_page_30 (by decide) (fun c30 => ?_) (fun c30 => absurd c30 (by omega))
          refine g_iload_n C 2 rfl dX4_page_35 ?_
          refine g_if_ne C (by unfold rng; omega) 46 dX4_page_36 (by decide) (fun c36 => ?_) (fun c36 => ?_)
          · refine g_aload_n C 0 rfl dX4_page_46 ?_
            refine gf_Mod_d C hm1 hr1 lf_X4_7 dX4_page_47 ?_
            refine g_iload_n C 1 rfl dX4_page_50 ?_
            refine s_iald C (w 1 p) ha1 (by omega) (by decide) (by simp [upw]) dX4_page_51 ?_
            refine g_iload_n C 2 rfl dX4_page_52 ?_
            refine g_bipush C 7 rfl dX4_page_53 ?_
            refine g_icmp_ge C (by unfold rng; omega) (by unfold rng; omega) 62 dX4_page_55 (by decide) (fun c55 => ?_) (fun c55 => ?_)
            · refine g_iconst C 2 rfl dX4_page_62 ?_
              refine g_icmp_eq C (by have z9 := hw p (by omega) (by omega); unfold sm at z9; unfold rng; omega) (by unfold rng; omega) 68 dX4_page_63 (by decide) (fun c63 => ?_) (fun c63 => ?_)
              · refine g_iload_n C 2 rfl dX4_page_68 ?_
                have hsw : (k < 1 ∨ 7 < k) ∨ k = 1 ∨ k = 2 ∨ k = 3 ∨ k = 4 ∨ k = 5 ∨ k = 6 ∨ k = 7 := by omega
                rcases hsw with hv | hv | hv | hv | hv | hv | hv | hv
                · refine g_tableOut C (by unfold rng; omega) 166 dX4_page_69 hv (by decide) ?_
                  refine g_aload_n C 0 rfl dX4_page_166 ?_
                  refine gf_Mod_d C hm1 hr1 lf_X4_7 dX4_page_167 ?_
                  refine g_sipush C 288 rfl dX4_page_170 ?_
                  refine g_iload_n C 1 rfl dX4_page_173 ?_
                  refine g_iadd C dX4_page_174 ?_
                  refine s_iald C (w 1 (288 + p)) ha1 (by omega) (by decide) (by simp [upw]) dX4_page_175 ?_
                  refine g_iret C dX4_page_176 (Or.inr ⟨by omega, ?_, rfl⟩)
                  unfold mPage
                  rw [if_neg c36, if_neg (fun hz => hz (by first | (rw [if_pos (by omega)]; exact c63) | (rw [if_neg (by omega)]; exact c63))), if_neg (by omega), if_neg (by omega), if_neg (by omega), if_neg (by omega), if_neg (by omega), if_neg (by omega), if_neg (by omega)]
                · refine g_tableIn C (by unfold rng; omega) 112 dX4_page_69 (by omega) (by omega) (by rw [hv]; rfl) (by decide) ?_
                  refine g_aload_n C 0 rfl dX4_page_112 ?_
                  refine g_iload_n C 1 rfl dX4_page_113 ?_
                  refine g_callI C [vI p] [] (c_X4_slots l D cy g V (upw w 0 7 0) a o p hap hm (mwf_7 hw 0) (by omega)) lm_X4_31 (rcv_Mod hm.1) rfl (Nat.le_of_ble_eq_true rfl) ⟨(Nat.le_of_ble_eq_true rfl), (Nat.le_of_ble_eq_true rfl)⟩ ⟨Nat.zero_le _, Nat.zero_le _⟩ dX4_page_114 ?_
                  rintro _ _ ⟨rfl, rfl⟩
                  rw [(p7 w 0 p).1]
                  refine g_iret C dX4_page_117 (Or.inr ⟨by omega, ?_, rfl⟩)
                  unfold mPage
                  rw [if_neg c36, if_neg (fun hz => hz (by first | (rw [if_pos (by omega)]; exact c63) | (rw [if_neg (by omega)]; exact c63))), if_pos (by omega)]
                · refine g_tableIn C (by unfold rng; omega) 118 dX4_page_69 (by omega) (by omega) (by rw [hv]; rfl) (by decide) ?_
                  refine g_aload_n C 0 rfl dX4_page_118 ?_
                  refine g_iload_n C 1 rfl dX4_page_119 ?_
                  refine g_callI C [vI p] [] (c_X4_cells l D cy g V (upw w 0 7 0) a o p hap hm (mwf_7 hw 0) (by omega)) lm_X4_45 (rcv_Mod hm.1) rfl (Nat.le_of_ble_eq_true rfl) ⟨(Nat.le_of_ble_eq_true rfl), (Nat.le_of_ble_eq_true rfl)⟩ ⟨Nat.zero_le _, Nat.zero_le _⟩ dX4_page_120 ?_
                  rintro _ _ ⟨rfl, rfl⟩
                  rw [(p7 w 0 p).2.2.1]
                  refine g_iret C dX4_page_123 (Or.inr ⟨by omega, ?_, rfl⟩)
                  unfold mPage
                  rw [if_neg c36, if_neg (fun hz => hz (by first | (rw [if_pos (by omega)]; exact c63) | (rw [if_neg (by omega)]; exact c63))), if_neg (by omega), if_pos (by omega)]
                · refine g_tableIn C (by unfold rng; omega) 124 dX4_page_69 (by omega) (by omega) (by rw [hv]; rfl) (by decide) ?_
                  refine g_aload_n C 0 rfl dX4_page_124 ?_
                  refine g_iload_n C 1 rfl dX4_page_125 ?_
                  refine g_callI C [vI p] [] (c_X4_room l D cy g V (upw w 0 7 0) a o p hap hm (mwf_7 hw 0) (by omega)) lm_X4_48 (rcv_Mod hm.1) rfl (Nat.le_of_ble_eq_true rfl) ⟨(Nat.le_of_ble_eq_true rfl), (Nat.le_of_ble_eq_true rfl)⟩ ⟨Nat.zero_le _, Nat.zero_le _⟩ dX4_page_126 ?_
                  rintro _ _ ⟨rfl, rfl⟩
                  rw [(p7 w 0 p).2.2.2]
                  refine g_iret C dX4_page_129 (Or.inr ⟨by omega, ?_, rfl⟩)
                  unfold mPage
                  rw [if_neg c36, if_neg (fun hz => hz (by first | (rw [if_pos (by omega)]; exact c63) | (rw [if_neg (by omega)]; exact c63))), if_neg (by omega), if_neg (by omega), if_pos (by omega)]
                · refine g_tableIn C (by unfold rng; omega) 130 dX4_page_69 (by omega) (by omega) (by rw [hv]; rfl) (by decide) ?_
                  refine g_aload_n C 0 rfl dX4_page_130 ?_
                  refine gf_Mod_d C hm1 hr1 lf_X4_7 dX4_page_131 ?_
                  refine g_bipush C 96 rfl dX4_page_134 ?_
                  refine g_iload_n C 1 rfl dX4_page_136 ?_
                  refine g_iadd C dX4_page_137 ?_
                  refine s_iald C (w 1 (96 + p)) ha1 (by omega) (by decide) (by simp [upw]) dX4_page_138 ?_
                  refine g_iret C dX4_page_139 (Or.inr ⟨by omega, ?_, rfl⟩)
                  unfold mPage
                  rw [if_neg c36, if_neg (fun hz => hz (by first | (rw [if_pos (by omega)]; exact c63) | (rw [if_neg (by omega)]; exact c63))), if_neg (by omega), if_neg (by omega), if_neg (by omega), if_pos (by omega)]
                · refine g_tableIn C (by unfold rng; omega) 140 dX4_page_69 (by omega) (by omega) (by rw [hv]; rfl) (by decide) ?_
                  refine g_aload_n C 0 rfl dX4_page_140 ?_
                  refine g_iload_n C 1 rfl dX4_page_141 ?_
                  refine g_callI C [vI p] [] (c_X4_room l D cy g V (upw w 0 7 0) a o p hap hm (mwf_7 hw 0) (by omega)) lm_X4_48 (rcv_Mod hm.1) rfl (Nat.le_of_ble_eq_true rfl) ⟨(Nat.le_of_ble_eq_true rfl), (Nat.le_of_ble_eq_true rfl)⟩ ⟨Nat.zero_le _, Nat.zero_le _⟩ dX4_page_142 ?_
                  rintro _ _ ⟨rfl, rfl⟩
                  rw [(p7 w 0 p).2.2.2]
                  have hrm := hroom (by omega) (by omega)
                  refine g_bipush C 31 rfl dX4_page_145 ?_
                  refine g_idiv C (by omega) (by omega) dX4_page_147 ?_
                  refine g_iret C dX4_page_148 (Or.inr ⟨by omega, ?_, rfl⟩)
                  unfold mPage
                  rw [if_neg c36, if_neg (fun hz => hz (by first | (rw [if_pos (by omega)]; exact c63) | (rw [if_neg (by omega)]; exact c63))), if_neg (by omega), if_neg (by omega), if_neg (by omega), if_neg (by omega), if_pos (by omega)]
                · refine g_tableIn C (by unfold rng; omega) 149 dX4_page_69 (by omega) (by omega) (by rw [hv]; rfl) (by decide) ?_
                  refine g_aload_n C 0 rfl dX4_page_149 ?_
                  refine g_iload_n C 1 rfl dX4_page_150 ?_
                  refine g_callI C [vI p] [] (c_X4_stubs l D cy g V (upw w 0 7 0) a o p hap hm (mwf_7 hw 0) (by omega)) lm_X4_125 (rcv_Mod hm.1) rfl (Nat.le_of_ble_eq_true rfl) ⟨(Nat.le_of_ble_eq_true rfl), (Nat.le_of_ble_eq_true rfl)⟩ ⟨Nat.zero_le _, Nat.zero_le _⟩ dX4_page_151 ?_
                  rintro _ _ ⟨rfl, rfl⟩
                  rw [p7s w 0 p]
                  refine g_iret C dX4_page_154 (Or.inr ⟨by omega, ?_, rfl⟩)
                  unfold mPage
                  rw [if_neg c36, if_neg (fun hz => hz (by first | (rw [if_pos (by omega)]; exact c63) | (rw [if_neg (by omega)]; exact c63))), if_neg (by omega), if_neg (by omega), if_neg (by omega), if_neg (by omega), if_neg (by omega), if_pos (by omega)]
                · refine g_tableIn C (by unfold rng; omega) 155 dX4_page_69 (by omega) (by omega) (by rw [hv]; rfl) (by decide) ?_
                  refine g_aload_n C 0 rfl dX4_page_155 ?_
                  refine gf_Mod_d C hm1 hr1 lf_X4_7 dX4_page_156 ?_
                  refine g_sipush C 192 rfl dX4_page_159 ?_
                  refine g_iload_n C 1 rfl dX4_page_162 ?_
                  refine g_iadd C dX4_page_163 ?_
                  refine s_iald C (w 1 (192 + p)) ha1 (by omega) (by decide) (by simp [upw]) dX4_page_164 ?_
                  refine g_iret C dX4_page_165 (Or.inr ⟨by omega, ?_, rfl⟩)
                  unfold mPage
                  rw [if_neg c36, if_neg (fun hz => hz (by first | (rw [if_pos (by omega)]; exact c63) | (rw [if_neg (by omega)]; exact c63))), if_neg (by omega), if_neg (by omega), if_neg (by omega), if_neg (by omega), if_neg (by omega), if_neg (by omega), if_pos (by omega)]
              · refine g_iconst C (-1) rfl dX4_page_66 ?_
                refine g_iret C dX4_page_67 (Or.inr ⟨by omega, ?_, rfl⟩)
                unfold mPage
                rw [if_neg c36, if_pos (by first | (rw [if_pos (by omega)]; exact c63) | (rw [if_neg (by omega)]; exact c63))]
            · refine g_iconst C 1 rfl dX4_page_58 ?_
              refine g_goto C 63 dX4_page_59 (by decide) ?_
              refine g_icmp_eq C (by have z9 := hw p (by omega) (by omega); unfold sm at z9; unfold rng; omega) (by unfold rng; omega) 68 dX4_page_63 (by decide) (fun c63 => ?_) (fun c63 => ?_)
              · refine g_iload_n C 2 rfl dX4_page_68 ?_
                have hsw : (k < 1 ∨ 7 < k) ∨ k = 1 ∨ k = 2 ∨ k = 3 ∨ k = 4 ∨ k = 5 ∨ k = 6 ∨ k = 7 := by omega
                rcases hsw with hv | hv | hv | hv | hv | hv | hv | hv
                · refine g_tableOut C (by unfold rng; omega) 166 dX4_page_69 hv (by decide) ?_
                  refine g_aload_n C 0 rfl dX4_page_166 ?_
                  refine gf_Mod_d C hm1 hr1 lf_X4_7 dX4_page_167 ?_
                  refine g_sipush C 288 rfl dX4_page_170 ?_
                  refine g_iload_n C 1 rfl dX4_page_173 ?_
                  refine g_iadd C dX4_page_174 ?_
                  refine s_iald C (w 1 (288 + p)) ha1 (by omega) (by decide) (by simp [upw]) dX4_page_175 ?_
                  refine g_iret C dX4_page_176 (Or.inr ⟨by omega, ?_, rfl⟩)
                  unfold mPage
                  rw [if_neg c36, if_neg (fun hz => hz (by first | (rw [if_pos (by omega)]; exact c63) | (rw [if_neg (by omega)]; exact c63))), if_neg (by omega), if_neg (by omega), if_neg (by omega), if_neg (by omega), if_neg (by omega), if_neg (by omega), if_neg (by omega)]
                · refine g_tableIn C (by unfold rng; omega) 112 dX4_page_69 (by omega) (by omega) (by rw [hv]; rfl) (by decide) ?_
                  refine g_aload_n C 0 rfl dX4_page_112 ?_
                  refine g_iload_n C 1 rfl dX4_page_113 ?_
                  refine g_callI C [vI p] [] (c_X4_slots l D cy g V (upw w 0 7 0) a o p hap hm (mwf_7 hw 0) (by omega)) lm_X4_31 (rcv_Mod hm.1) rfl (Nat.le_of_ble_eq_true rfl) ⟨(Nat.le_of_ble_eq_true rfl), (Nat.le_of_ble_eq_true rfl)⟩ ⟨Nat.zero_le _, Nat.zero_le _⟩ dX4_page_114 ?_
                  rintro _ _ ⟨rfl, rfl⟩
                  rw [(p7 w 0 p).1]
                  refine g_iret C dX4_page_117 (Or.inr ⟨by omega, ?_, rfl⟩)
                  unfold mPage
                  rw [if_neg c36, if_neg (fun hz => hz (by first | (rw [if_pos (by omega)]; exact c63) | (rw [if_neg (by omega)]; exact c63))), if_pos (by omega)]
                · refine g_tableIn C (by unfold rng; omega) 118 dX4_page_69 (by omega) (by omega) (by rw [hv]; rfl) (by decide) ?_
                  refine g_aload_n C 0 rfl dX4_page_118 ?_
                  refine g_iload_n C 1 rfl dX4_page_119 ?_
                  refine g_callI C [vI p] [] (c_X4_cells l D cy g V (upw w 0 7 0) a o p hap hm (mwf_7 hw 0) (by omega)) lm_X4_45 (rcv_Mod hm.1) rfl (Nat.le_of_ble_eq_true rfl) ⟨(Nat.le_of_ble_eq_true rfl), (Nat.le_of_ble_eq_true rfl)⟩ ⟨Nat.zero_le _, Nat.zero_le _⟩ dX4_page_120 ?_
                  rintro _ _ ⟨rfl, rfl⟩
                  rw [(p7 w 0 p).2.2.1]
                  refine g_iret C dX4_page_123 (Or.inr ⟨by omega, ?_, rfl⟩)
                  unfold mPage
                  rw [if_neg c36, if_neg (fun hz => hz (by first | (rw [if_pos (by omega)]; exact c63) | (rw [if_neg (by omega)]; exact c63))), if_neg (by omega), if_pos (by omega)]
                · refine g_tableIn C (by unfold rng; omega) 124 dX4_page_69 (by omega) (by omega) (by rw [hv]; rfl) (by decide) ?_
                  refine g_aload_n C 0 rfl dX4_page_124 ?_
                  refine g_iload_n C 1 rfl dX4_page_125 ?_
                  refine g_callI C [vI p] [] (c_X4_room l D cy g V (upw w 0 7 0) a o p hap hm (mwf_7 hw 0) (by omega)) lm_X4_48 (rcv_Mod hm.1) rfl (Nat.le_of_ble_eq_true rfl) ⟨(Nat.le_of_ble_eq_true rfl), (Nat.le_of_ble_eq_true rfl)⟩ ⟨Nat.zero_le _, Nat.zero_le _⟩ dX4_page_126 ?_
                  rintro _ _ ⟨rfl, rfl⟩
                  rw [(p7 w 0 p).2.2.2]
                  refine g_iret C dX4_page_129 (Or.inr ⟨by omega, ?_, rfl⟩)
                  unfold mPage
                  rw [if_neg c36, if_neg (fun hz => hz (by first | (rw [if_pos (by omega)]; exact c63) | (rw [if_neg (by omega)]; exact c63))), if_neg (by omega), if_neg (by omega), if_pos (by omega)]
                · refine g_tableIn C (by unfold rng; omega) 130 dX4_page_69 (by omega) (by omega) (by rw [hv]; rfl) (by decide) ?_
                  refine g_aload_n C 0 rfl dX4_page_130 ?_
                  refine gf_Mod_d C hm1 hr1 lf_X4_7 dX4_page_131 ?_
                  refine g_bipush C 96 rfl dX4_page_134 ?_
                  refine g_iload_n C 1 rfl dX4_page_136 ?_
                  refine g_iadd C dX4_page_137 ?_
                  refine s_iald C (w 1 (96 + p)) ha1 (by omega) (by decide) (by simp [upw]) dX4_page_138 ?_
                  refine g_iret C dX4_page_139 (Or.inr ⟨by omega, ?_, rfl⟩)
                  unfold mPage
                  rw [if_neg c36, if_neg (fun hz => hz (by first | (rw [if_pos (by omega)]; exact c63) | (rw [if_neg (by omega)]; exact c63))), if_neg (by omega), if_neg (by omega), if_neg (by omega), if_pos (by omega)]
                · refine g_tableIn C (by unfold rng; omega) 140 dX4_page_69 (by omega) (by omega) (by rw [hv]; rfl) (by decide) ?_
                  refine g_aload_n C 0 rfl dX4_page_140 ?_
                  refine g_iload_n C 1 rfl dX4_page_141 ?_
                  refine g_callI C [vI p] [] (c_X4_room l D cy g V (upw w 0 7 0) a o p hap hm (mwf_7 hw 0) (by omega)) lm_X4_48 (rcv_Mod hm.1) rfl (Nat.le_of_ble_eq_true rfl) ⟨(Nat.le_of_ble_eq_true rfl), (Nat.le_of_ble_eq_true rfl)⟩ ⟨Nat.zero_le _, Nat.zero_le _⟩ dX4_page_142 ?_
                  rintro _ _ ⟨rfl, rfl⟩
                  rw [(p7 w 0 p).2.2.2]
                  have hrm := hroom (by omega) (by omega)
                  refine g_bipush C 31 rfl dX4_page_145 ?_
                  refine g_idiv C (by omega) (by omega) dX4_page_147 ?_
                  refine g_iret C dX4_page_148 (Or.inr ⟨by omega, ?_, rfl⟩)
                  unfold mPage
                  rw [if_neg c36, if_neg (fun hz => hz (by first | (rw [if_pos (by omega)]; exact c63) | (rw [if_neg (by omega)]; exact c63))), if_neg (by omega), if_neg (by omega), if_neg (by omega), if_neg (by omega), if_pos (by omega)]
                · refine g_tableIn C (by unfold rng; omega) 149 dX4_page_69 (by omega) (by omega) (by rw [hv]; rfl) (by decide) ?_
                  refine g_aload_n C 0 rfl dX4_page_149 ?_
                  refine g_iload_n C 1 rfl dX4_page_150 ?_
                  refine g_callI C [vI p] [] (c_X4_stubs l D cy g V (upw w 0 7 0) a o p hap hm (mwf_7 hw 0) (by omega)) lm_X4_125 (rcv_Mod hm.1) rfl (Nat.le_of_ble_eq_true rfl) ⟨(Nat.le_of_ble_eq_true rfl), (Nat.le_of_ble_eq_true rfl)⟩ ⟨Nat.zero_le _, Nat.zero_le _⟩ dX4_page_151 ?_
                  rintro _ _ ⟨rfl, rfl⟩
                  rw [p7s w 0 p]
                  refine g_iret C dX4_page_154 (Or.inr ⟨by omega, ?_, rfl⟩)
                  unfold mPage
                  rw [if_neg c36, if_neg (fun hz => hz (by first | (rw [if_pos (by omega)]; exact c63) | (rw [if_neg (by omega)]; exact c63))), if_neg (by omega), if_neg (by omega), if_neg (by omega), if_neg (by omega), if_neg (by omega), if_pos (by omega)]
                · refine g_tableIn C (by unfold rng; omega) 155 dX4_page_69 (by omega) (by omega) (by rw [hv]; rfl) (by decide) ?_
                  refine g_aload_n C 0 rfl dX4_page_155 ?_
                  refine gf_Mod_d C hm1 hr1 lf_X4_7 dX4_page_156 ?_
                  refine g_sipush C 192 rfl dX4_page_159 ?_
                  refine g_iload_n C 1 rfl dX4_page_162 ?_
                  refine g_iadd C dX4_page_163 ?_
                  refine s_iald C (w 1 (192 + p)) ha1 (by omega) (by decide) (by simp [upw]) dX4_page_164 ?_
                  refine g_iret C dX4_page_165 (Or.inr ⟨by omega, ?_, rfl⟩)
                  unfold mPage
                  rw [if_neg c36, if_neg (fun hz => hz (by first | (rw [if_pos (by omega)]; exact c63) | (rw [if_neg (by omega)]; exact c63))), if_neg (by omega), if_neg (by omega), if_neg (by omega), if_neg (by omega), if_neg (by omega), if_neg (by omega), if_pos (by omega)]
              · refine g_iconst C (-1) rfl dX4_page_66 ?_
                refine g_iret C dX4_page_67 (Or.inr ⟨by omega, ?_, rfl⟩)
                unfold mPage
                rw [if_neg c36, if_pos (by first | (rw [if_pos (by omega)]; exact c63) | (rw [if_neg (by omega)]; exact c63))]
          · refine g_aload_n C 0 rfl dX4_page_39 ?_
            refine gf_Mod_d C hm1 hr1 lf_X4_7 dX4_page_40 ?_
            refine g_iload_n C 1 rfl dX4_page_43 ?_
            refine s_iald C (w 1 p) ha1 (by omega) (by decide) (by simp [upw]) dX4_page_44 ?_
            refine g_iret C dX4_page_45 (Or.inr ⟨by omega, ?_, rfl⟩)
            unfold mPage
            rw [if_pos c36]
        · refine g_iconst C 1 rfl dX4_page_21 ?_
          refine g_goto C 26 dX4_page_22 (by decide) ?_
          refine g_iconst C 1 rfl dX4_page_26 ?_
          refine g_callI C [vI 1, vI 1] [] (c_X4_fails l D cy g V w a o 1 1 hap hm (by omega)) lm_X4_102 (rcv_Mod hm.1) rfl (Nat.le_of_ble_eq_true rfl) ⟨(Nat.le_of_ble_eq_true rfl), (Nat.le_of_ble_eq_true rfl)⟩ ⟨Nat.zero_le _, Nat.zero_le _⟩ dX4_page_27 ?_
          rintro _ _ ⟨rfl, rfl⟩
          rw [show (if (1 : Int) = 1 then (1 : Int) else 0) = 1 from rfl]
          refine g_if_eq C (by unfold rng; omega) 35 dX4_page_30 (by decide) (fun c30 => absurd c30 (by omega)) (fun c30 => ?_)
          refine g_iconst C 0 rfl dX4_page_33 ?_
          exact g_iret C dX4_page_34 (Or.inl ⟨by omega, rfl, rfl⟩)
set_option maxHeartbeats 4000000 in
set_option maxRecDepth 100000 in
theorem c_X4_slot (l : Launch) (D : va_G) (cy : ClassId × ClassId) (g : GT) (V : VT) (w : Int → Int → Int) (a : Nat) (o : Int) (p s : Int) (hap : Apart g) (hm : isMod g a o) (hw : mwf w) (hp9 : rng p) (hk9 : rng s) : MetI l yX4_slot cX4_slot 3 (some .int) 2 D cy g [.ref a, vI p, vI s] (setp V o w) (fun r V' => (¬ ((0 ≤ p ∧ p < 96) ∧ 0 ≤ s) ∧ r = 0 ∧ V' = setp V o (upw w 0 7 1)) ∨ (((0 ≤ p ∧ p < 96) ∧ 0 ≤ s) ∧ r = mSlotA w p s ∧ V' = setp V o (upw w 0 7 0))) := by
  obtain ⟨hm1, r1, r2, r3, ⟨hr1, ha1⟩, ⟨hr2, ha2⟩, ⟨hr3, ha3⟩⟩ := id hm
  unfold rng at hp9 hk9
  have hsb := mSl_bd w p 32
  refine MetI.of (by decide) (Nat.le_of_ble_eq_true rfl) hap ?_
  intro p_ e_ s_ m_ args_ below_ meth_ c_ C
  refine g_aload_n C 0 rfl dX4_slot_0 ?_
  refine g_iload_n C 1 rfl dX4_slot_1 ?_
  refine g_if_lt C (by unfold rng; omega) 15 dX4_slot_2 (by decide) (fun c2 => ?_) (fun c2 => ?_)
  · refine g_iconst C 1 rfl dX4_slot_15 ?_
    refine g_goto C 20 dX4_slot_16 (by decide) ?_
    refine g_iconst C 1 rfl dX4_slot_20 ?_
    refine g_callI C [vI 1, vI 1] [] (c_X4_fails l D cy g V w a o 1 1 hap hm (by omega)) lm_X4_102 (rcv_Mod hm.1) rfl (Nat.le_of_ble_eq_true rfl) ⟨(Nat.le_of_ble_eq_true rfl), (Nat.le_of_ble_eq_true rfl)⟩ ⟨Nat.zero_le _, Nat.zero_le _⟩ dX4_slot_21 ?_
    rintro _ _ ⟨rfl, rfl⟩
    rw [show (if (1 : Int) = 1 then (1 : Int) else 0) = 1 from rfl]
    refine g_if_eq C (by unfold rng; omega) 29 dX4_slot_24 (by decide) (fun c24 => absurd c24 (by omega)) (fun c24 => ?_)
    refine g_iconst C 0 rfl dX4_slot_27 ?_
    exact g_iret C dX4_slot_28 (Or.inl ⟨by omega, rfl, rfl⟩)
  · refine g_iload_n C 1 rfl dX4_slot_5 ?_
    refine g_bipush C 96 rfl dX4_slot_6 ?_
    refine g_icmp_ge C (by unfold rng; omega) (by unfold rng; omega) 15 dX4_slot_8 (by decide) (fun c8 => ?_) (fun c8 => ?_)
    · refine g_iconst C 1 rfl dX4_slot_15 ?_
      refine g_goto C 20 dX4_slot_16 (by decide) ?_
      refine g_iconst C 1 rfl dX4_slot_20 ?_
      refine g_callI C [vI 1, vI 1] [] (c_X4_fails l D cy g V w a o 1 1 hap hm (by omega)) lm_X4_102 (rcv_Mod hm.1) rfl (Nat.le_of_ble_eq_true rfl) ⟨(Nat.le_of_ble_eq_true rfl), (Nat.le_of_ble_eq_true rfl)⟩ ⟨Nat.zero_le _, Nat.zero_le _⟩ dX4_slot_21 ?_
      rintro _ _ ⟨rfl, rfl⟩
      rw [show (if (1 : Int) = 1 then (1 : Int) else 0) = 1 from rfl]
      refine g_if_eq C (by unfold rng; omega) 29 dX4_slot_24 (by decide) (fun c24 => absurd c24 (by omega)) (fun c24 => ?_)
      refine g_iconst C 0 rfl dX4_slot_27 ?_
      exact g_iret C dX4_slot_28 (Or.inl ⟨by omega, rfl, rfl⟩)
    · refine g_iload_n C 2 rfl dX4_slot_11 ?_
      refine g_if_ge C (by unfold rng; omega) 19 dX4_slot_12 (by decide) (fun c12 => ?_) (fun c12 => ?_)
      · refine g_iconst C 0 rfl dX4_slot_19 ?_
        refine g_iconst C 1 rfl dX4_slot_20 ?_
        refine g_callI C [vI 0, vI 1] [] (c_X4_fails l D cy g V w a o 0 1 hap hm (by omega)) lm_X4_102 (rcv_Mod hm.1) rfl (Nat.le_of_ble_eq_true rfl) ⟨(Nat.le_of_ble_eq_true rfl), (Nat.le_of_ble_eq_true rfl)⟩ ⟨Nat.zero_le _, Nat.zero_le _⟩ dX4_slot_21 ?_
        rintro _ _ ⟨rfl, rfl⟩
        rw [show (if (0 : Int) = 1 then (1 : Int) else 0) = 0 from rfl]
        refine g_if_eq C (by unfold rng; omega) 29 dX4_slot_24 (by decide) (fun c24 => ?_) (fun c24 => absurd c24 (by omega))
        refine g_aload_n C 0 rfl dX4_slot_29 ?_
        refine gf_Mod_d C hm1 hr1 lf_X4_7 dX4_slot_30 ?_
        refine g_iload_n C 1 rfl dX4_slot_33 ?_
        refine s_iald C (w 1 p) ha1 (by omega) (by decide) (by simp [upw]) dX4_slot_34 ?_
        refine g_iconst C 1 rfl dX4_slot_35 ?_
        refine g_icmp_ne C (by have z9 := hw p (by omega) (by omega); unfold sm at z9; unfold rng; omega) (by unfold rng; omega) 48 dX4_slot_36 (by decide) (fun c36 => ?_) (fun c36 => ?_)
        · refine g_iconst C (-1) rfl dX4_slot_48 ?_
          refine g_goto C 58 dX4_slot_49 (by decide) ?_
          refine g_iret C dX4_slot_58 (Or.inr ⟨by omega, ?_, rfl⟩)
          unfold mSlotA
          first | rw [if_pos (by omega)] | rw [if_neg (by omega)]
        · refine g_iload_n C 2 rfl dX4_slot_39 ?_
          refine g_aload_n C 0 rfl dX4_slot_40 ?_
          refine g_iload_n C 1 rfl dX4_slot_41 ?_
          refine g_callI C [vI p] [vI s] (c_X4_slots l D cy g V (upw w 0 7 0) a o p hap hm (mwf_7 hw 0) (by omega)) lm_X4_31 (rcv_Mod hm.1) rfl (Nat.le_of_ble_eq_true rfl) ⟨(Nat.le_of_ble_eq_true rfl), (Nat.le_of_ble_eq_true rfl)⟩ ⟨Nat.zero_le _, Nat.zero_le _⟩ dX4_slot_42 ?_
          rintro _ _ ⟨rfl, rfl⟩
          rw [(p7 w 0 p).1]
          refine g_icmp_lt C (by unfold rng; omega) (by unfold rng; omega) 52 dX4_slot_45 (by decide) (fun c45 => ?_) (fun c45 => ?_)
          · refine g_aload_n C 0 rfl dX4_slot_52 ?_
            refine g_iload_n C 1 rfl dX4_slot_53 ?_
            refine g_iload_n C 2 rfl dX4_slot_54 ?_
            refine g_callI C [vI p, vI s] [] (c_X4_kindOf l D cy g V (upw w 0 7 0) a o p s hap hm (mwf_7 hw 0) (by omega) (by omega)) lm_X4_122 (rcv_Mod hm.1) rfl (Nat.le_of_ble_eq_true rfl) ⟨(Nat.le_of_ble_eq_true rfl), (Nat.le_of_ble_eq_true rfl)⟩ ⟨Nat.zero_le _, Nat.zero_le _⟩ dX4_slot_55 ?_
            rintro _ _ ⟨rfl, rfl⟩
            rw [p7k w 0 p s]
            refine g_iret C dX4_slot_58 (Or.inr ⟨by omega, ?_, rfl⟩)
            unfold mSlotA
            first | rw [if_pos (by omega)] | rw [if_neg (by omega)]
          · refine g_iconst C (-1) rfl dX4_slot_48 ?_
            refine g_goto C 58 dX4_slot_49 (by decide) ?_
            refine g_iret C dX4_slot_58 (Or.inr ⟨by omega, ?_, rfl⟩)
            unfold mSlotA
            first | rw [if_pos (by omega)] | rw [if_neg (by omega)]
      · refine g_iconst C 1 rfl dX4_slot_15 ?_
        refine g_goto C 20 dX4_slot_16 (by decide) ?_
        refine g_iconst C 1 rfl dX4_slot_20 ?_
        refine g_callI C [vI 1, vI 1] [] (c_X4_fails l D cy g V w a o 1 1 hap hm (by omega)) lm_X4_102 (rcv_Mod hm.1) rfl (Nat.le_of_ble_eq_true rfl) ⟨(Nat.le_of_ble_eq_true rfl), (Nat.le_of_ble_eq_true rfl)⟩ ⟨Nat.zero_le _, Nat.zero_le _⟩ dX4_slot_21 ?_
        rintro _ _ ⟨rfl, rfl⟩
        rw [show (if (1 : Int) = 1 then (1 : Int) else 0) = 1 from rfl]
        refine g_if_eq C (by unfold rng; omega) 29 dX4_slot_24 (by decide) (fun c24 => absurd c24 (by omega)) (fun c24 => ?_)
        refine g_iconst C 0 rfl dX4_slot_27 ?_
        exact g_iret C dX4_slot_28 (Or.inl ⟨by omega, rfl, rfl⟩)
set_option maxHeartbeats 4000000 in
set_option maxRecDepth 100000 in
theorem c_X4_total (l : Launch) (D : va_G) (cy : ClassId × ClassId) (g : GT) (V : VT) (w : Int → Int → Int) (a : Nat) (o : Int) (k : Int) (hap : Apart g) (hm : isMod g a o) (hw : mwf w) (hk9 : rng k) : MetI l yX4_total cX4_total 2 (some .int) 2 D cy g [.ref a, vI k] (setp V o w) (fun r V' => (¬ (0 ≤ k ∧ k ≤ 7) ∧ r = 0 ∧ V' = setp V o (upw w 0 7 1)) ∨ ((0 ≤ k ∧ k ≤ 7) ∧ r = mTotal w k ∧ V' = setp V o (upw w 0 7 0))) := by
  obtain ⟨hm1, r1, r2, r3, ⟨hr1, ha1⟩, ⟨hr2, ha2⟩, ⟨hr3, ha3⟩⟩ := id hm
  unfold rng at hk9
  refine MetI.of (by decide) (Nat.le_of_ble_eq_true rfl) hap ?_
  intro p_ e_ s_ m_ args_ below_ meth_ c_ C
  refine g_aload_n C 0 rfl dX4_total_0 ?_
  refine g_iload_n C 1 rfl dX4_total_1 ?_
  refine g_if_lt C (by unfold rng; omega) 11 dX4_total_2 (by decide) (fun c2 => ?_) (fun c2 => ?_)
  · refine g_iconst C 1 rfl dX4_total_11 ?_
    refine g_goto C 16 dX4_total_12 (by decide) ?_
    refine g_iconst C 1 rfl dX4_total_16 ?_
    refine g_callI C [vI 1, vI 1] [] (c_X4_fails l D cy g V w a o 1 1 hap hm (by omega)) lm_X4_102 (rcv_Mod hm.1) rfl (Nat.le_of_ble_eq_true rfl) ⟨(Nat.le_of_ble_eq_true rfl), (Nat.le_of_ble_eq_true rfl)⟩ ⟨Nat.zero_le _, Nat.zero_le _⟩ dX4_total_17 ?_
    rintro _ _ ⟨rfl, rfl⟩
    rw [show (if (1 : Int) = 1 then (1 : Int) else 0) = 1 from rfl]
    refine g_if_eq C (by unfold rng; omega) 25 dX4_total_20 (by decide) (fun c20 => absurd c20 (by omega)) (fun c20 => ?_)
    refine g_iconst C 0 rfl dX4_total_23 ?_
    exact g_iret C dX4_total_24 (Or.inl ⟨by omega, rfl, rfl⟩)
  · refine g_iload_n C 1 rfl dX4_total_5 ?_
    refine g_bipush C 7 rfl dX4_total_6 ?_
    refine g_icmp_le C (by unfold rng; omega) (by unfold rng; omega) 15 dX4_total_8 (by decide) (fun c8 => ?_) (fun c8 => ?_)
    · refine g_iconst C 0 rfl dX4_total_15 ?_
      refine g_iconst C 1 rfl dX4_total_16 ?_
      refine g_callI C [vI 0, vI 1] [] (c_X4_fails l D cy g V w a o 0 1 hap hm (by omega)) lm_X4_102 (rcv_Mod hm.1) rfl (Nat.le_of_ble_eq_true rfl) ⟨(Nat.le_of_ble_eq_true rfl), (Nat.le_of_ble_eq_true rfl)⟩ ⟨Nat.zero_le _, Nat.zero_le _⟩ dX4_total_17 ?_
      rintro _ _ ⟨rfl, rfl⟩
      rw [show (if (0 : Int) = 1 then (1 : Int) else 0) = 0 from rfl]
      refine g_if_eq C (by unfold rng; omega) 25 dX4_total_20 (by decide) (fun c20 => ?_) (fun c20 => absurd c20 (by omega))
      refine g_iload_n C 1 rfl dX4_total_25 ?_
      have hsw : (k < 0 ∨ 6 < k) ∨ k = 0 ∨ k = 1 ∨ k = 2 ∨ k = 3 ∨ k = 4 ∨ k = 5 ∨ k = 6 := by omega
      rcases hsw with hv | hv | hv | hv | hv | hv | hv | hv
      · refine g_tableOut C (by unfold rng; omega) 108 dX4_total_26 hv (by decide) ?_
        refine g_aload_n C 0 rfl dX4_total_108 ?_
        refine sf_Mod_crashes C (w 0 5) hm1 (by simp [upw]) lf_X4_128 dX4_total_109 ?_
        refine g_iret C dX4_total_112 (Or.inr ⟨by omega, ?_, rfl⟩)
        unfold mTotal
        rw [if_neg (by omega), if_neg (by omega), if_neg (by omega), if_neg (by omega), if_neg (by omega), if_neg (by omega), if_neg (by omega)]
      · refine g_tableIn C (by unfold rng; omega) 68 dX4_total_26 (by omega) (by omega) (by rw [hv]; rfl) (by decide) ?_
        refine g_aload_n C 0 rfl dX4_total_68 ?_
        refine g_iconst C 0 rfl dX4_total_69 ?_
        refine g_callI C [vI 0] [] (c_X4_records l D cy g V (upw w 0 7 0) a o 0 hap hm (mwf_7 hw 0) (by omega)) lm_X4_134 (rcv_Mod hm.1) rfl (Nat.le_of_ble_eq_true rfl) ⟨(Nat.le_of_ble_eq_true rfl), (Nat.le_of_ble_eq_true rfl)⟩ ⟨Nat.zero_le _, Nat.zero_le _⟩ dX4_total_70 ?_
        rintro _ _ ⟨rfl, rfl⟩
        rw [p7r w 0 0]
        refine g_iret C dX4_total_73 (Or.inr ⟨by omega, ?_, rfl⟩)
        unfold mTotal
        rw [if_pos (by omega)]
      · refine g_tableIn C (by unfold rng; omega) 74 dX4_total_26 (by omega) (by omega) (by rw [hv]; rfl) (by decide) ?_
        refine g_aload_n C 0 rfl dX4_total_74 ?_
        refine g_iconst C 0 rfl dX4_total_75 ?_
        refine g_callI C [vI 0] [] (c_X4_pagesOf l D cy g V (upw w 0 7 0) a o 0 hap hm (mwf_7 hw 0) (by unfold sm; omega)) lm_X4_138 (rcv_Mod hm.1) rfl (Nat.le_of_ble_eq_true rfl) ⟨(Nat.le_of_ble_eq_true rfl), (Nat.le_of_ble_eq_true rfl)⟩ ⟨Nat.zero_le _, Nat.zero_le _⟩ dX4_total_76 ?_
        rintro _ _ ⟨rfl, rfl⟩
        rw [show upw w 0 7 0 1 = w 1 from funext (fun j => upw_t (by decide))]
        refine g_iret C dX4_total_79 (Or.inr ⟨by omega, ?_, rfl⟩)
        unfold mTotal
        rw [if_neg (by omega), if_pos (by omega)]
      · refine g_tableIn C (by unfold rng; omega) 80 dX4_total_26 (by omega) (by omega) (by rw [hv]; rfl) (by decide) ?_
        refine g_aload_n C 0 rfl dX4_total_80 ?_
        refine g_iconst C 1 rfl dX4_total_81 ?_
        refine g_callI C [vI 1] [] (c_X4_pagesOf l D cy g V (upw w 0 7 0) a o 1 hap hm (mwf_7 hw 0) (by unfold sm; omega)) lm_X4_138 (rcv_Mod hm.1) rfl (Nat.le_of_ble_eq_true rfl) ⟨(Nat.le_of_ble_eq_true rfl), (Nat.le_of_ble_eq_true rfl)⟩ ⟨Nat.zero_le _, Nat.zero_le _⟩ dX4_total_82 ?_
        rintro _ _ ⟨rfl, rfl⟩
        rw [show upw w 0 7 0 1 = w 1 from funext (fun j => upw_t (by decide))]
        refine g_iret C dX4_total_85 (Or.inr ⟨by omega, ?_, rfl⟩)
        unfold mTotal
        rw [if_neg (by omega), if_neg (by omega), if_pos (by omega)]
      · refine g_tableIn C (by unfold rng; omega) 86 dX4_total_26 (by omega) (by omega) (by rw [hv]; rfl) (by decide) ?_
        refine g_aload_n C 0 rfl dX4_total_86 ?_
        refine g_iconst C 2 rfl dX4_total_87 ?_
        refine g_callI C [vI 2] [] (c_X4_pagesOf l D cy g V (upw w 0 7 0) a o 2 hap hm (mwf_7 hw 0) (by unfold sm; omega)) lm_X4_138 (rcv_Mod hm.1) rfl (Nat.le_of_ble_eq_true rfl) ⟨(Nat.le_of_ble_eq_true rfl), (Nat.le_of_ble_eq_true rfl)⟩ ⟨Nat.zero_le _, Nat.zero_le _⟩ dX4_total_88 ?_
        rintro _ _ ⟨rfl, rfl⟩
        rw [show upw w 0 7 0 1 = w 1 from funext (fun j => upw_t (by decide))]
        refine g_iret C dX4_total_91 (Or.inr ⟨by omega, ?_, rfl⟩)
        unfold mTotal
        rw [if_neg (by omega), if_neg (by omega), if_neg (by omega), if_pos (by omega)]
      · refine g_tableIn C (by unfold rng; omega) 92 dX4_total_26 (by omega) (by omega) (by rw [hv]; rfl) (by decide) ?_
        refine g_aload_n C 0 rfl dX4_total_92 ?_
        refine g_iconst C 1 rfl dX4_total_93 ?_
        refine g_callI C [vI 1] [] (c_X4_records l D cy g V (upw w 0 7 0) a o 1 hap hm (mwf_7 hw 0) (by omega)) lm_X4_134 (rcv_Mod hm.1) rfl (Nat.le_of_ble_eq_true rfl) ⟨(Nat.le_of_ble_eq_true rfl), (Nat.le_of_ble_eq_true rfl)⟩ ⟨Nat.zero_le _, Nat.zero_le _⟩ dX4_total_94 ?_
        rintro _ _ ⟨rfl, rfl⟩
        rw [p7r w 0 1]
        refine g_iret C dX4_total_97 (Or.inr ⟨by omega, ?_, rfl⟩)
        unfold mTotal
        rw [if_neg (by omega), if_neg (by omega), if_neg (by omega), if_neg (by omega), if_pos (by omega)]
      · refine g_tableIn C (by unfold rng; omega) 98 dX4_total_26 (by omega) (by omega) (by rw [hv]; rfl) (by decide) ?_
        refine g_aload_n C 0 rfl dX4_total_98 ?_
        refine sf_Mod_changeCount C (w 0 3) hm1 (by simp [upw]) lf_X4_95 dX4_total_99 ?_
        refine g_iret C dX4_total_102 (Or.inr ⟨by omega, ?_, rfl⟩)
        unfold mTotal
        rw [if_neg (by omega), if_neg (by omega), if_neg (by omega), if_neg (by omega), if_neg (by omega), if_pos (by omega)]
      · refine g_tableIn C (by unfold rng; omega) 103 dX4_total_26 (by omega) (by omega) (by rw [hv]; rfl) (by decide) ?_
        refine g_aload_n C 0 rfl dX4_total_103 ?_
        refine sf_Mod_compacted C (w 0 4) hm1 (by simp [upw]) lf_X4_38 dX4_total_104 ?_
        refine g_iret C dX4_total_107 (Or.inr ⟨by omega, ?_, rfl⟩)
        unfold mTotal
        rw [if_neg (by omega), if_neg (by omega), if_neg (by omega), if_neg (by omega), if_neg (by omega), if_neg (by omega), if_pos (by omega)]
    · refine g_iconst C 1 rfl dX4_total_11 ?_
      refine g_goto C 16 dX4_total_12 (by decide) ?_
      refine g_iconst C 1 rfl dX4_total_16 ?_
      refine g_callI C [vI 1, vI 1] [] (c_X4_fails l D cy g V w a o 1 1 hap hm (by omega)) lm_X4_102 (rcv_Mod hm.1) rfl (Nat.le_of_ble_eq_true rfl) ⟨(Nat.le_of_ble_eq_true rfl), (Nat.le_of_ble_eq_true rfl)⟩ ⟨Nat.zero_le _, Nat.zero_le _⟩ dX4_total_17 ?_
      rintro _ _ ⟨rfl, rfl⟩
      rw [show (if (1 : Int) = 1 then (1 : Int) else 0) = 1 from rfl]
      refine g_if_eq C (by unfold rng; omega) 25 dX4_total_20 (by decide) (fun c20 => absurd c20 (by omega)) (fun c20 => ?_)
      refine g_iconst C 0 rfl dX4_total_23 ?_
      exact g_iret C dX4_total_24 (Or.inl ⟨by omega, rfl, rfl⟩)
/-- the step of a crash: change i of the changes c, at u -/
def mStep (J : Nat → (Int → Int → Int) → Prop) (c : Int → Int) (i : Nat) (u : Int → Int → Int) : Prop :=
  (c (4 * i) = 0 → (0 ≤ c (4 * i + 2) ∧ c (4 * i + 2) ≤ 1200) ∧ (chP (c (4 * i + 2)) ≤ cntK (u 1) 0 96 → ∃ L, isCh (mNx (mtN u (c (4 * i + 2)) (chP (c (4 * i + 2))).toNat).1) L (mtN u (c (4 * i + 2)) (chP (c (4 * i + 2))).toNat).2.1) ∧ ∀ r u', InsM u (c (4 * i + 2)) (c (4 * i + 3)) r u' → J (i + 1) u') ∧
  (c (4 * i) = 1 → (0 ≤ c (4 * i + 2) ∧ c (4 * i + 2) ≤ 1200) ∧ (chP (c (4 * i + 2)) ≤ cntK (u 1) 0 96 → ∃ L, isCh (mNx (mtN u (c (4 * i + 2)) (chP (c (4 * i + 2))).toNat).1) L (mtN u (c (4 * i + 2)) (chP (c (4 * i + 2))).toNat).2.1) ∧ (0 ≤ c (4 * i + 1) ∧ c (4 * i + 1) < 3072) ∧ (0 ≤ u 1 (6528 + c (4 * i + 1)) ∧ u 1 (6528 + c (4 * i + 1)) < 3072) ∧ u 1 (c (4 * i + 1) / 32) = 1 ∧ u 1 (u 1 (6528 + c (4 * i + 1)) / 32) = 1 ∧ (u 1 (6528 + c (4 * i + 1)) = c (4 * i + 1) ∨ u 1 (6528 + c (4 * i + 1)) / 32 ≠ c (4 * i + 1) / 32) ∧ ∃ L0, isCh (mNx u) L0 (u 1 (15744 + c (4 * i + 1))) ∧ (∀ p ∈ L0, u 1 p = 2) ∧ ∀ r u', UpdM u (c (4 * i + 1)) (c (4 * i + 2)) (c (4 * i + 3)) L0 r u' → J (i + 1) u') ∧
  (c (4 * i) ≠ 0 → c (4 * i) ≠ 1 → (0 ≤ c (4 * i + 1) ∧ c (4 * i + 1) < 3072) ∧ (0 ≤ u 1 (6528 + c (4 * i + 1)) ∧ u 1 (6528 + c (4 * i + 1)) < 3072) ∧ ∃ L0, isCh (mNx u) L0 (u 1 (15744 + c (4 * i + 1))) ∧ J (i + 1) (mDel u (c (4 * i + 1)) L0))
set_option maxHeartbeats 4000000 in
set_option maxRecDepth 100000 in
theorem c_X4_crash (l : Launch) (D : va_G) (cy : ClassId × ClassId) (g : GT) (V : VT) (w : Int → Int → Int) (a : Nat) (o : Int) (k : Int) (J : Nat → (Int → Int → Int) → Prop) (hap : Apart g) (hm : isMod g a o) (hw : mwf w) (hk9 : rng k) (hcc9 : 0 ≤ w 0 3 ∧ w 0 3 < 4000) (hc3 : ∀ j, 0 ≤ j → j < 16000 → sm (w 3 j)) (hJ0 : 0 ≤ k ∧ k ≤ w 0 3 → J 0 (upw (updt (upw w 0 7 0) 1 ((upw w 0 7 0) 2)) 0 6 1)) (hJf : ∀ i u, J i u → (∀ j, u 3 j = w 3 j) ∧ mwf u ∧ MB u ∧ u 0 6 = 1) (hstep : ∀ (i : Nat) (u : Int → Int → Int), (i : Int) < k → J i u → mStep J (w 3) i u) : MetI l yX4_crash cX4_crash 5 (some .int) 5 D cy g [.ref a, vI k] (setp V o w) (fun r V' => (¬ (0 ≤ k ∧ k ≤ w 0 3) ∧ r = 0 ∧ V' = setp V o (upw w 0 7 1)) ∨ ((0 ≤ k ∧ k ≤ w 0 3) ∧ r = w 0 3 - k ∧ ∃ u, J k.toNat u ∧ V' = setp V o (mSync (upw (upw u 0 6 0) 0 5 (u 0 5 + 1))))) := by
  obtain ⟨hm1, r1, r2, r3, ⟨hr1, ha1⟩, ⟨hr2, ha2⟩, ⟨hr3, ha3⟩⟩ := id hm
  unfold rng at hk9
  refine MetI.of (by decide) (Nat.le_of_ble_eq_true rfl) hap ?_
  intro p_ e_ s_ m_ args_ below_ meth_ c_ C
  have loop : ∀ (n : Nat) (i : Nat) (u : Int → Int → Int), 0 ≤ k ∧ k ≤ w 0 3 ∧ i + n = k.toNat → J i u → G p_ l e_ (rmd 5) s_ m_ args_ below_ meth_ c_ 5 0 0 (MQ below_ (QcI D cy g (fun r V' => (¬ (0 ≤ k ∧ k ≤ w 0 3) ∧ r = 0 ∧ V' = setp V o (upw w 0 7 1)) ∨ ((0 ≤ k ∧ k ≤ w 0 3) ∧ r = w 0 3 - k ∧ ∃ u, J k.toNat u ∧ V' = setp V o (mSync (upw (upw u 0 6 0) 0 5 (u 0 5 + 1)))))) args_ s_ 0 0 (fun q => q ∈ gL g)) D cy g (fun q => q ∈ gL g) s_.heap (setp V o u) 52 [(3, vI ((i : Int))), (2, vI (w 0 3 - k)), (0, .ref a), (1, vI k)] [] := by
    intro n
    induction n with
    | zero =>
      intro i u hin hJ
      obtain ⟨hu3, hum, huB, hu6⟩ := hJf i u hJ
      refine g_iload_n C 0 rfl dX4_crash_52 ?_
      refine g_iload_n C 3 rfl dX4_crash_53 ?_
      refine g_icmp_ge C (by unfold rng; omega) (by unfold rng; omega) 162 dX4_crash_54 (by decide) (fun c54 => ?_) (fun c54 => absurd c54 (by omega))
      refine g_aload_n C 2 rfl dX4_crash_162 ?_
      refine g_iconst C 0 rfl dX4_crash_163 ?_
      refine sp_Mod_again C hm1 (by omega) lf_X4_41 dX4_crash_164 ?_
      refine g_aload_n C 2 rfl dX4_crash_167 ?_
      refine g_dupR C dX4_crash_168 ?_
      refine sf_Mod_crashes C (u 0 5) hm1 (by simp [upw]) lf_X4_128 dX4_crash_169 ?_
      refine g_iconst C 1 rfl dX4_crash_172 ?_
      refine g_iadd C dX4_crash_173 ?_
      refine sp_Mod_crashes C hm1 lf_X4_128 dX4_crash_174 ?_
      refine g_aload_n C 2 rfl dX4_crash_177 ?_
      refine g_callI C [] [] (c_X4_sync l D cy g V (upw (upw u 0 6 0) 0 5 ((u 0 5) + 1)) a o hap hm) lm_X4_131 (rcv_Mod hm.1) rfl (Nat.le_of_ble_eq_true rfl) ⟨(Nat.le_of_ble_eq_true rfl), (Nat.le_of_ble_eq_true rfl)⟩ ⟨Nat.zero_le _, Nat.zero_le _⟩ dX4_crash_178 ?_
      rintro _ _ ⟨rfl, rfl⟩
      refine g_popI C dX4_crash_181 ?_
      refine g_iload_n C 1 rfl dX4_crash_182 ?_
      have hi9 : i = k.toNat := by omega
      subst hi9
      exact g_iret C dX4_crash_183 (Or.inr ⟨by omega, rfl, u, hJ, rfl⟩)
    | succ n ih =>
      intro i u hin hJ
      obtain ⟨hu3, hum, huB, hu6⟩ := hJf i u hJ
      have hst := hstep i u (by omega) hJ
      refine g_iload_n C 0 rfl dX4_crash_52 ?_
      refine g_iload_n C 3 rfl dX4_crash_53 ?_
      refine g_icmp_ge C (by unfold rng; omega) (by unfold rng; omega) 162 dX4_crash_54 (by decide) (fun c54 => absurd c54 (by omega)) (fun c54 => ?_)
      refine g_aload_n C 2 rfl dX4_crash_57 ?_
      refine gf_Mod_changes C hm1 hr3 lf_X4_16 dX4_crash_58 ?_
      refine g_iconst C 4 rfl dX4_crash_61 ?_
      refine g_iload_n C 0 rfl dX4_crash_62 ?_
      refine g_imul C dX4_crash_63 ?_
      refine g_iconst C 1 rfl dX4_crash_64 ?_
      refine g_iadd C dX4_crash_65 ?_
      refine s_iald C (w 3 ((4 * ((i : Int))) + 1)) ha3 (by omega) (by decide) (hu3 _) dX4_crash_66 ?_
      refine g_istore C [(4, vI (w 3 ((4 * ((i : Int))) + 1))), (3, vI ((i : Int))), (2, vI (w 0 3 - k)), (0, .ref a), (1, vI k)] dX4_crash_67 (by decide) rfl ?_
      refine g_aload_n C 3 rfl dX4_crash_69 ?_
      refine gf_Mod_changes C hm1 hr3 lf_X4_16 dX4_crash_70 ?_
      refine g_iconst C 4 rfl dX4_crash_73 ?_
      refine g_iload_n C 1 rfl dX4_crash_74 ?_
      refine g_imul C dX4_crash_75 ?_
      refine s_iald C (w 3 (4 * ((i : Int)))) ha3 (by omega) (by decide) (hu3 _) dX4_crash_76 ?_
      refine g_if_ne C (by have z9 := hc3 (4 * (i : Int)) (by omega) (by omega); unfold sm at z9; unfold rng; omega) 108 dX4_crash_77 (by decide) (fun c77 => ?_) (fun c77 => ?_)
      · refine g_aload_n C 3 rfl dX4_crash_108 ?_
        refine gf_Mod_changes C hm1 hr3 lf_X4_16 dX4_crash_109 ?_
        refine g_iconst C 4 rfl dX4_crash_112 ?_
        refine g_iload_n C 1 rfl dX4_crash_113 ?_
        refine g_imul C dX4_crash_114 ?_
        refine s_iald C (w 3 (4 * ((i : Int)))) ha3 (by omega) (by decide) (hu3 _) dX4_crash_115 ?_
        refine g_iconst C 1 rfl dX4_crash_116 ?_
        refine g_icmp_ne C (by have z9 := hc3 (4 * (i : Int)) (by omega) (by omega); unfold sm at z9; unfold rng; omega) (by unfold rng; omega) 150 dX4_crash_117 (by decide) (fun c117 => ?_) (fun c117 => ?_)
        · obtain ⟨b3, b4, L0, b8, hJ1⟩ := hst.2.2 c77 c117
          refine g_aload_n C 3 rfl dX4_crash_150 ?_
          refine g_iload C 0 rfl dX4_crash_151 ?_
          refine g_callV C [vI (w 3 ((4 * ((i : Int))) + 1))] [] (c_X4_deletes l D cy g V u a o (w 3 ((4 * ((i : Int))) + 1)) _ _ L0 hap hm hum b3 rfl b4 rfl b8) lm_X4_119 (rcv_Mod hm.1) rfl (Nat.le_of_ble_eq_true rfl) ⟨(Nat.le_of_ble_eq_true rfl), (Nat.le_of_ble_eq_true rfl)⟩ ⟨Nat.zero_le _, Nat.zero_le _⟩ dX4_crash_153 ?_
          rintro _ rfl
          refine g_iinc C [(3, vI (((i : Int)) + 1)), (4, vI (w 3 ((4 * ((i : Int))) + 1))), (2, vI (w 0 3 - k)), (0, .ref a), (1, vI k)] 1 rfl dX4_crash_156 (by decide) rfl ?_
          refine g_goto C 52 dX4_crash_159 (by decide) ?_
          refine g_sub [0, 2, 3, 4] rfl ?_
          exact ih (i + 1) _ (by omega) hJ1
        · obtain ⟨b1, b2, b3, b4, b5, b6, b7, L0, b8, b9, b10⟩ := hst.2.1 c117
          refine g_aload_n C 3 rfl dX4_crash_120 ?_
          refine g_iload C 0 rfl dX4_crash_121 ?_
          refine g_aload_n C 3 rfl dX4_crash_123 ?_
          refine gf_Mod_changes C hm1 hr3 lf_X4_16 dX4_crash_124 ?_
          refine g_iconst C 4 rfl dX4_crash_127 ?_
          refine g_iload_n C 1 rfl dX4_crash_128 ?_
          refine g_imul C dX4_crash_129 ?_
          refine g_iconst C 2 rfl dX4_crash_130 ?_
          refine g_iadd C dX4_crash_131 ?_
          refine s_iald C (w 3 ((4 * ((i : Int))) + 2)) ha3 (by omega) (by decide) (hu3 _) dX4_crash_132 ?_
          refine g_aload_n C 3 rfl dX4_crash_133 ?_
          refine gf_Mod_changes C hm1 hr3 lf_X4_16 dX4_crash_134 ?_
          refine g_iconst C 4 rfl dX4_crash_137 ?_
          refine g_iload_n C 1 rfl dX4_crash_138 ?_
          refine g_imul C dX4_crash_139 ?_
          refine g_iconst C 3 rfl dX4_crash_140 ?_
          refine g_iadd C dX4_crash_141 ?_
          refine s_iald C (w 3 ((4 * ((i : Int))) + 3)) ha3 (by omega) (by decide) (hu3 _) dX4_crash_142 ?_
          refine g_callI C [vI (w 3 ((4 * ((i : Int))) + 1)), vI (w 3 ((4 * ((i : Int))) + 2)), vI (w 3 ((4 * ((i : Int))) + 3))] [] (c_X4_updates l D cy g V u a o (w 3 ((4 * ((i : Int))) + 1)) (w 3 ((4 * ((i : Int))) + 2)) (w 3 ((4 * ((i : Int))) + 3)) _ _ L0 hap hm hum huB (Or.inr hu6) b1 b3 rfl b4 b5 b6 b7 rfl b8 b9 b2) lm_X4_116 (rcv_Mod hm.1) rfl (Nat.le_of_ble_eq_true rfl) ⟨(Nat.le_of_ble_eq_true rfl), (Nat.le_of_ble_eq_true rfl)⟩ ⟨Nat.zero_le _, Nat.zero_le _⟩ dX4_crash_143 ?_
          rintro r _ ⟨u1, hu1, rfl⟩
          have hJ1 := b10 r u1 hu1
          refine g_popI C dX4_crash_146 ?_
          refine g_goto C 156 dX4_crash_147 (by decide) ?_
          refine g_iinc C [(3, vI (((i : Int)) + 1)), (4, vI (w 3 ((4 * ((i : Int))) + 1))), (2, vI (w 0 3 - k)), (0, .ref a), (1, vI k)] 1 rfl dX4_crash_156 (by decide) rfl ?_
          refine g_goto C 52 dX4_crash_159 (by decide) ?_
          refine g_sub [0, 2, 3, 4] rfl ?_
          exact ih (i + 1) _ (by omega) hJ1
      · refine g_aload_n C 3 rfl dX4_crash_80 ?_
        refine g_aload_n C 3 rfl dX4_crash_81 ?_
        refine gf_Mod_changes C hm1 hr3 lf_X4_16 dX4_crash_82 ?_
        refine g_iconst C 4 rfl dX4_crash_85 ?_
        refine g_iload_n C 1 rfl dX4_crash_86 ?_
        refine g_imul C dX4_crash_87 ?_
        refine g_iconst C 2 rfl dX4_crash_88 ?_
        refine g_iadd C dX4_crash_89 ?_
        refine s_iald C (w 3 ((4 * ((i : Int))) + 2)) ha3 (by omega) (by decide) (hu3 _) dX4_crash_90 ?_
        refine g_aload_n C 3 rfl dX4_crash_91 ?_
        refine gf_Mod_changes C hm1 hr3 lf_X4_16 dX4_crash_92 ?_
        refine g_iconst C 4 rfl dX4_crash_95 ?_
        refine g_iload_n C 1 rfl dX4_crash_96 ?_
        refine g_imul C dX4_crash_97 ?_
        refine g_iconst C 3 rfl dX4_crash_98 ?_
        refine g_iadd C dX4_crash_99 ?_
        refine s_iald C (w 3 ((4 * ((i : Int))) + 3)) ha3 (by omega) (by decide) (hu3 _) dX4_crash_100 ?_
        refine g_callI C [vI (w 3 ((4 * ((i : Int))) + 2)), vI (w 3 ((4 * ((i : Int))) + 3))] [] (c_X4_inserts l D cy g V u a o (w 3 ((4 * ((i : Int))) + 2)) (w 3 ((4 * ((i : Int))) + 3)) hap hm hum huB (Or.inr hu6) (hst.1 c77).1 (hst.1 c77).2.1) lm_X4_106 (rcv_Mod hm.1) rfl (Nat.le_of_ble_eq_true rfl) ⟨(Nat.le_of_ble_eq_true rfl), (Nat.le_of_ble_eq_true rfl)⟩ ⟨Nat.zero_le _, Nat.zero_le _⟩ dX4_crash_101 ?_
        rintro r _ ⟨u1, hu1, rfl⟩
        have hJ1 := (hst.1 c77).2.2 r u1 hu1
        refine g_popI C dX4_crash_104 ?_
        refine g_goto C 156 dX4_crash_105 (by decide) ?_
        refine g_iinc C [(3, vI (((i : Int)) + 1)), (4, vI (w 3 ((4 * ((i : Int))) + 1))), (2, vI (w 0 3 - k)), (0, .ref a), (1, vI k)] 1 rfl dX4_crash_156 (by decide) rfl ?_
        refine g_goto C 52 dX4_crash_159 (by decide) ?_
        refine g_sub [0, 2, 3, 4] rfl ?_
        exact ih (i + 1) _ (by omega) hJ1
  refine g_aload_n C 0 rfl dX4_crash_0 ?_
  refine g_iload_n C 1 rfl dX4_crash_1 ?_
  refine g_if_lt C (by unfold rng; omega) 13 dX4_crash_2 (by decide) (fun c2 => ?_) (fun c2 => ?_)
  · refine g_iconst C 1 rfl dX4_crash_13 ?_
    refine g_goto C 18 dX4_crash_14 (by decide) ?_
    refine g_iconst C 1 rfl dX4_crash_18 ?_
    refine g_callI C [vI 1, vI 1] [] (c_X4_fails l D cy g V w a o 1 1 hap hm (by omega)) lm_X4_102 (rcv_Mod hm.1) rfl (Nat.le_of_ble_eq_true rfl) ⟨(Nat.le_of_ble_eq_true rfl), (Nat.le_of_ble_eq_true rfl)⟩ ⟨Nat.zero_le _, Nat.zero_le _⟩ dX4_crash_19 ?_
    rintro _ _ ⟨rfl, rfl⟩
    rw [show (if (1 : Int) = 1 then (1 : Int) else 0) = 1 from rfl]
    refine g_if_eq C (by unfold rng; omega) 27 dX4_crash_22 (by decide) (fun c22 => absurd c22 (by omega)) (fun c22 => ?_)
    refine g_iconst C 0 rfl dX4_crash_25 ?_
    exact g_iret C dX4_crash_26 (Or.inl ⟨by omega, rfl, rfl⟩)
  · refine g_iload_n C 1 rfl dX4_crash_5 ?_
    refine g_aload_n C 0 rfl dX4_crash_6 ?_
    refine sf_Mod_changeCount C (w 0 3) hm1 rfl lf_X4_95 dX4_crash_7 ?_
    refine g_icmp_le C (by unfold rng; omega) (by unfold rng; omega) 17 dX4_crash_10 (by decide) (fun c10 => ?_) (fun c10 => ?_)
    · refine g_iconst C 0 rfl dX4_crash_17 ?_
      refine g_iconst C 1 rfl dX4_crash_18 ?_
      refine g_callI C [vI 0, vI 1] [] (c_X4_fails l D cy g V w a o 0 1 hap hm (by omega)) lm_X4_102 (rcv_Mod hm.1) rfl (Nat.le_of_ble_eq_true rfl) ⟨(Nat.le_of_ble_eq_true rfl), (Nat.le_of_ble_eq_true rfl)⟩ ⟨Nat.zero_le _, Nat.zero_le _⟩ dX4_crash_19 ?_
      rintro _ _ ⟨rfl, rfl⟩
      rw [show (if (0 : Int) = 1 then (1 : Int) else 0) = 0 from rfl]
      refine g_if_eq C (by unfold rng; omega) 27 dX4_crash_22 (by decide) (fun c22 => ?_) (fun c22 => absurd c22 (by omega))
      refine g_aload_n C 0 rfl dX4_crash_27 ?_
      refine sf_Mod_changeCount C (w 0 3) hm1 (by simp [upw]) lf_X4_95 dX4_crash_28 ?_
      refine g_iload_n C 1 rfl dX4_crash_31 ?_
      refine g_isub C dX4_crash_32 ?_
      refine g_istore_n C [(2, vI ((w 0 3) - k)), (0, .ref a), (1, vI k)] dX4_crash_33 rfl (by decide) rfl ?_
      refine g_aload_n C 1 rfl dX4_crash_34 ?_
      refine gf_Mod_synced C hm1 hr2 lf_X4_13 dX4_crash_35 ?_
      refine g_aload_n C 1 rfl dX4_crash_38 ?_
      refine gf_Mod_d C hm1 hr1 lf_X4_7 dX4_crash_39 ?_
      refine g_callSV C [.ref r2, .ref r1] [] (c_X4_copy l D cy g V (upw w 0 7 0) r2 r1 o 2 1 hap ha2 ha1 (by decide)) lm_X4_19 rfl (Nat.le_of_ble_eq_true rfl) ⟨(Nat.le_of_ble_eq_true rfl), (Nat.le_of_ble_eq_true rfl)⟩ ⟨Nat.zero_le _, Nat.zero_le _⟩ dX4_crash_42 ?_
      rintro _ rfl
      refine g_aload_n C 1 rfl dX4_crash_45 ?_
      refine g_iconst C 1 rfl dX4_crash_46 ?_
      refine sp_Mod_again C hm1 (by omega) lf_X4_41 dX4_crash_47 ?_
      refine g_iconst C 0 rfl dX4_crash_50 ?_
      refine g_istore_n C [(3, vI 0), (2, vI ((w 0 3) - k)), (0, .ref a), (1, vI k)] dX4_crash_51 rfl (by decide) rfl ?_
      refine g_sub [0, 1, 2, 3] rfl ?_
      exact loop k.toNat 0 _ (by omega) (hJ0 (by omega))
    · refine g_iconst C 1 rfl dX4_crash_13 ?_
      refine g_goto C 18 dX4_crash_14 (by decide) ?_
      refine g_iconst C 1 rfl dX4_crash_18 ?_
      refine g_callI C [vI 1, vI 1] [] (c_X4_fails l D cy g V w a o 1 1 hap hm (by omega)) lm_X4_102 (rcv_Mod hm.1) rfl (Nat.le_of_ble_eq_true rfl) ⟨(Nat.le_of_ble_eq_true rfl), (Nat.le_of_ble_eq_true rfl)⟩ ⟨Nat.zero_le _, Nat.zero_le _⟩ dX4_crash_19 ?_
      rintro _ _ ⟨rfl, rfl⟩
      rw [show (if (1 : Int) = 1 then (1 : Int) else 0) = 1 from rfl]
      refine g_if_eq C (by unfold rng; omega) 27 dX4_crash_22 (by decide) (fun c22 => absurd c22 (by omega)) (fun c22 => ?_)
      refine g_iconst C 0 rfl dX4_crash_25 ?_
      exact g_iret C dX4_crash_26 (Or.inl ⟨by omega, rfl, rfl⟩)
