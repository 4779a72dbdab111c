abbrev cK (V : VT) (b c : Int) : Int := V (b + c / 32) 1 (c % 32)
abbrev cL (V : VT) (b c : Int) : Int := V (b + c / 32) 2 (c % 32)
abbrev cS (V : VT) (b c : Int) : Int := V (b + c / 32) 3 (c % 32)
abbrev cN (V : VT) (b c : Int) : Int := V (b + c / 32) 4 (c % 32)
/-- records: the model's tables as the class's cells say them; ch: the chain of a value's cell -/
def RR (V : VT) (b : Int) (d : Int → Int) (ch : Int → List Int) : Prop := ∀ x, 0 ≤ x → x < 3072 →
  ((cK V b x = 1 ∨ cK V b x = 2) → d (3456 + x) = x) ∧ (cK V b x = 3 → d (3456 + x) ≠ x) ∧
  d (6528 + x) = (if cK V b x = 1 then x else if cK V b x = 2 then cN V b x else -1) ∧
  (cK V b x = 2 → (0 ≤ cN V b x ∧ cN V b x < 3072) ∧ cN V b x / 32 ≠ x / 32 ∧ cK V b (cN V b x) = 3 ∧ d (3456 + cN V b x) = x) ∧
  ((cK V b x = 1 ∨ cK V b x = 2) → d (9600 + x) = cL V b (d (6528 + x)) ∧ d (12672 + x) = cS V b (d (6528 + x)) ∧ d (15744 + x) = cN V b (d (6528 + x))) ∧
  ((cK V b x = 1 ∨ cK V b x = 3) → isCh (nx V b) (ch x) (cN V b x) ∧ (∀ p ∈ ch x, kd V b p = 2) ∧ (ch x).length ≤ 96 ∧ (0 ≤ cS V b x ∧ cS V b x ≤ 255)) ∧
  (∀ y, 0 ≤ y → y < 3072 → y ≠ x → (cK V b x = 1 ∨ cK V b x = 3) → (cK V b y = 1 ∨ cK V b y = 3) → ∀ p ∈ ch x, p ∉ ch y)
/-- a change of record x: its value's new cell is v; Z: the cells that are touched -/
theorem RR_upd {V V' : VT} {b : Int} {d d' : Int → Int} {ch ch' : Int → List Int} {x v : Int} {Z : Int → Prop} (h : RR V b d ch) (hx : 0 ≤ x ∧ x < 3072) (hv : 0 ≤ v ∧ v < 3072) (hZx : Z x) (hZv : Z v)
    (ha : ∀ y, 0 ≤ y → y < 3072 → ¬ Z y → cK V' b y = cK V b y ∧ cL V' b y = cL V b y ∧ cS V' b y = cS V b y ∧ cN V' b y = cN V b y ∧ d' (3456 + y) = d (3456 + y) ∧ ch' y = ch y)
    (hb : ∀ y, 0 ≤ y → y < 3072 → y ≠ x → d' (6528 + y) = d (6528 + y) ∧ d' (9600 + y) = d (9600 + y) ∧ d' (12672 + y) = d (12672 + y) ∧ d' (15744 + y) = d (15744 + y))
    (hbz : ∀ y, 0 ≤ y → y < 3072 → Z y → y ≠ x → cK V b y ≠ 1 ∧ cK V b y ≠ 2)
    (hc : ∀ y, 0 ≤ y → y < 3072 → ¬ Z y → cK V b y = 2 → ¬ Z (cN V b y))
    (hd : ∀ y, 0 ≤ y → y < 3072 → ¬ Z y → (cK V b y = 1 ∨ cK V b y = 3) → ∀ p ∈ ch y, kd V' b p = 2 ∧ nx V' b p = nx V b p)
    (h0 : ∀ z, 0 ≤ z → z < 3072 → Z z → z ≠ x → z ≠ v → cK V' b z = 0)
    (hk : (cK V' b x = 0 ∧ cK V' b v = 0 ∧ d' (6528 + x) = -1) ∨
      (((cK V' b x = 1 ∧ v = x) ∨ (cK V' b x = 2 ∧ v ≠ x ∧ cK V' b v = 3 ∧ cN V' b x = v ∧ v / 32 ≠ x / 32 ∧ d' (3456 + v) = x)) ∧ d' (3456 + x) = x ∧ d' (6528 + x) = v ∧ d' (9600 + x) = cL V' b v ∧ d' (12672 + x) = cS V' b v ∧ d' (15744 + x) = cN V' b v ∧
        isCh (nx V' b) (ch' v) (cN V' b v) ∧ (∀ p ∈ ch' v, kd V' b p = 2) ∧ (ch' v).length ≤ 96 ∧ (0 ≤ cS V' b v ∧ cS V' b v ≤ 255) ∧
        ∀ y, 0 ≤ y → y < 3072 → ¬ Z y → (cK V b y = 1 ∨ cK V b y = 3) → ∀ p ∈ ch' v, p ∉ ch y)) : RR V' b d' ch' := by
  -- what a value's cell in Z is
  have hval : ∀ z, 0 ≤ z → z < 3072 → Z z → (cK V' b z = 1 ∨ cK V' b z = 3) → z = v := by
    intro z z1 z2 zz hz
    by_cases h1 : z = v
    · exact h1
    · by_cases h2 : z = x
      · subst h2
        rcases hk with ⟨k1, -⟩ | ⟨⟨k1, k2⟩ | ⟨k1, -⟩, -⟩
        · omega
        · exact k2.symm
        · omega
      · have := h0 z z1 z2 zz h2 h1; omega
  intro y y1 y2
  obtain ⟨r1, r2, r3, r4, r5, r6, r7⟩ := h y y1 y2
  by_cases hZ : Z y
  · by_cases hyx : y = x
    · subst hyx
      rcases hk with ⟨k1, k2, k3⟩ | ⟨k1, k2, k3, k4, k5, k6, k7, k8, k9, k10, k11⟩
      · refine ⟨fun q => absurd q (by omega), fun q => absurd q (by omega), by rw [if_neg (by omega), if_neg (by omega)]; exact k3, fun q => absurd q (by omega), fun q => absurd q (by omega), fun q => absurd q (by omega), fun z _ _ _ q => absurd q (by omega)⟩
      · refine ⟨fun _ => k2, ?_, ?_, ?_, fun _ => by rw [k3]; exact ⟨k4, k5, k6⟩, ?_, ?_⟩
        · intro q; rcases k1 with ⟨e, -⟩ | ⟨e, -⟩ <;> omega
        · rcases k1 with ⟨e, e2⟩ | ⟨e, -, -, e2, -⟩
          · rw [if_pos e, k3, e2]
          · rw [if_neg (by omega), if_pos e, e2, k3]
        · intro q
          rcases k1 with ⟨e, -⟩ | ⟨e, e1, e2, e3, e4, e5⟩
          · omega
          · rw [e3]; exact ⟨hv, e4, e2, e5⟩
        · intro q
          have hxv : y = v := hval y y1 y2 hZ q
          rw [hxv]
          exact ⟨k7, k8, k9, k10⟩
        · intro z z1 z2 hzx q qz p hp
          have hxv : y = v := hval y y1 y2 hZ q
          by_cases hZz : Z z
          · exact absurd ((hval z z1 z2 hZz qz).trans hxv.symm) hzx
          · obtain ⟨a1, a2, a3, a4, a5, a6⟩ := ha z z1 z2 hZz
            rw [a6]
            rw [hxv] at hp
            exact k11 z z1 z2 hZz (by rw [a1] at qz; exact qz) p hp
    · obtain ⟨b1, b2, b3, b4⟩ := hb y y1 y2 hyx
      have hzz := hbz y y1 y2 hZ hyx
      have hnr : cK V' b y ≠ 1 ∧ cK V' b y ≠ 2 := by
        by_cases hyv : y = v
        · subst hyv
          rcases hk with ⟨-, k2, -⟩ | ⟨⟨-, k1⟩ | ⟨-, -, k1, -⟩, -⟩
          · omega
          · exact absurd k1 hyx
          · omega
        · have := h0 y y1 y2 hZ hyx hyv; omega
      refine ⟨fun q => absurd q (by omega), ?_, ?_, fun q => absurd q (by omega), fun q => absurd q (by omega), ?_, ?_⟩
      · intro q
        have hyv : y = v := hval y y1 y2 hZ (Or.inr q)
        subst hyv
        rcases hk with ⟨-, k2, -⟩ | ⟨⟨-, k1⟩ | ⟨-, -, -, -, -, k1⟩, -⟩
        · omega
        · exact absurd k1 hyx
        · rw [k1]; exact fun e => hyx e.symm
      · rw [b1, r3, if_neg hnr.1, if_neg hnr.2, if_neg hzz.1, if_neg hzz.2]
      · intro q
        have hyv : y = v := hval y y1 y2 hZ q
        subst hyv
        rcases hk with ⟨-, k2, -⟩ | ⟨k1, k2, k3, k4, k5, k6, k7, k8, k9, k10, k11⟩
        · omega
        · exact ⟨k7, k8, k9, k10⟩
      · intro z z1 z2 hzx q qz p hp
        have hyv : y = v := hval y y1 y2 hZ q
        by_cases hZz : Z z
        · exact absurd ((hval z z1 z2 hZz qz).trans hyv.symm) hzx
        · obtain ⟨a1, a2, a3, a4, a5, a6⟩ := ha z z1 z2 hZz
          rw [a6]
          rcases hk with ⟨-, k2, -⟩ | ⟨k1, k2, k3, k4, k5, k6, k7, k8, k9, k10, k11⟩
          · subst hyv; omega
          · rw [hyv] at hp
            exact k11 z z1 z2 hZz (by rw [a1] at qz; exact qz) p hp
  · have hyx : y ≠ x := fun e => hZ (e ▸ hZx)
    obtain ⟨b1, b2, b3, b4⟩ := hb y y1 y2 hyx
    obtain ⟨a1, a2, a3, a4, a5, a6⟩ := ha y y1 y2 hZ
    refine ⟨fun q => by rw [a5]; exact r1 (by rw [a1] at q; exact q), fun q => by rw [a5]; exact r2 (by rw [a1] at q; exact q), by rw [b1, r3, a1, a4], ?_, ?_, ?_, ?_⟩
    · intro q
      rw [a1] at q
      obtain ⟨s1, s2, s3, s4⟩ := r4 q
      have hnz := hc y y1 y2 hZ q
      obtain ⟨c1, c2, c3, c4, c5, c6⟩ := ha (cN V b y) s1.1 s1.2 hnz
      rw [a4]
      exact ⟨s1, s2, by rw [c1]; exact s3, by rw [c5]; exact s4⟩
    · intro q
      rw [a1] at q
      obtain ⟨s1, s2, s3⟩ := r5 q
      have hw : 0 ≤ d (6528 + y) ∧ d (6528 + y) < 3072 ∧ ¬ Z (d (6528 + y)) := by
        rw [r3]
        rcases q with q | q
        · rw [if_pos q]; exact ⟨y1, y2, hZ⟩
        · rw [if_neg (by omega), if_pos q]; exact ⟨(r4 q).1.1, (r4 q).1.2, hc y y1 y2 hZ q⟩
      obtain ⟨c1, c2, c3, c4, c5, c6⟩ := ha _ hw.1 hw.2.1 hw.2.2
      rw [b1, b2, b3, b4, c2, c3, c4]
      exact ⟨s1, s2, s3⟩
    · intro q
      rw [a1] at q
      obtain ⟨s1, s2, s3, s4⟩ := r6 q
      rw [a4, a6, a3]
      exact ⟨isCh_congr (fun p hp => (hd y y1 y2 hZ q p hp).2) s1, fun p hp => (hd y y1 y2 hZ q p hp).1, s3, s4⟩
    · intro z z1 z2 hzx q qz p hp
      rw [a1] at q
      rw [a6] at hp
      by_cases hZz : Z z
      · have hzv : z = v := hval z z1 z2 hZz qz
        rcases hk with ⟨-, k2, -⟩ | ⟨k1, k2, k3, k4, k5, k6, k7, k8, k9, k10, k11⟩
        · subst hzv; omega
        · rw [hzv]; exact fun hp2 => k11 y y1 y2 hZ q p hp2 hp
      · obtain ⟨c1, c2, c3, c4, c5, c6⟩ := ha z z1 z2 hZz
        rw [c6]
        exact r7 z z1 z2 hzx q (by rw [c1] at qz; exact qz) p hp
theorem cell_setp {V : VT} {b p s v t : Int} {w' : Int → Int → Int} (hs : 0 ≤ s ∧ s < 32) (h : ∀ j, w' t j = if j = s then v else V (b + p) t j) (c : Int) : setp V (b + p) w' (b + c / 32) t (c % 32) = if c = 32 * p + s then v else V (b + c / 32) t (c % 32) := by
  by_cases hc : c / 32 = p
  · subst hc
    rw [setp_at, h]
    by_cases hj : c % 32 = s
    · rw [if_pos hj, if_pos (by omega)]
    · rw [if_neg hj, if_neg (by omega)]
  · rw [setp_ne (by omega), if_neg (by omega)]
theorem cell_same {V : VT} {b p t : Int} {w' : Int → Int → Int} (h : ∀ j, w' t j = V (b + p) t j) (c : Int) : setp V (b + p) w' (b + c / 32) t (c % 32) = V (b + c / 32) t (c % 32) := by
  by_cases hc : c / 32 = p
  · subst hc; rw [setp_at, h]
  · rw [setp_ne (by omega)]
/-- values away, and stubs -/
def awf (w : Int → Int → Int) (s : Int) : Int := if w 1 s = 3 then 1 else 0
def awN (V : VT) (b : Int) : Int := sumF (fun p => sumF (awf (V (b + p))) 32) 96
def stN (V : VT) (b : Int) : Int := sumF (fun p => V (b + p) 0 3) 96
theorem awN_setp {V : VT} {b p : Int} {w : Int → Int → Int} (hp : 0 ≤ p ∧ p < 96) : awN (setp V (b + p) w) b = awN V b - sumF (awf (V (b + p))) 32 + sumF (awf w) 32 := by
  unfold awN
  rw [sumF_upd (F := fun i => sumF (awf (V (b + i))) 32) (F' := fun i => sumF (awf (setp V (b + p) w (b + i))) 32) (r := p) (n := 96) ⟨hp.1, by omega⟩ (fun i _ _ hi => by rw [setp_ne (by omega)]), setp_at]
theorem stN_setp {V : VT} {b p : Int} {w : Int → Int → Int} (hp : 0 ≤ p ∧ p < 96) : stN (setp V (b + p) w) b = stN V b - V (b + p) 0 3 + w 0 3 := by
  unfold stN
  rw [sumF_upd (F := fun i => V (b + i) 0 3) (F' := fun i => setp V (b + p) w (b + i) 0 3) (r := p) (n := 96) ⟨hp.1, by omega⟩ (fun i _ _ hi => by rw [setp_ne (by omega)]), setp_at]
theorem awf_upd {w w' : Int → Int → Int} {s k : Int} (hs : 0 ≤ s ∧ s < 32) (h : ∀ j, w' 1 j = if j = s then k else w 1 j) : sumF (awf w') 32 = sumF (awf w) 32 - (if w 1 s = 3 then 1 else 0) + (if k = 3 then 1 else 0) := by
  rw [sumF_upd (F := awf w) (r := s) (n := 32) ⟨hs.1, by omega⟩ (fun i _ _ hi => by unfold awf; rw [h, if_neg hi])]
  have e1 : awf w' s = if k = 3 then 1 else 0 := by unfold awf; rw [h, if_pos rfl]
  have e2 : awf w s = if w 1 s = 3 then 1 else 0 := rfl
  omega
def Rel (V : VT) (b : Int) (d : Int → Int) (ch : Int → List Int) : Prop := SI V b ∧ PRel V b d ∧ RR V b d ch ∧ awN V b = stN V b
