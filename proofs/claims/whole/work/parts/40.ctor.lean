section
variable {p : Program} {l : Launch} {e : Env} {R : Room} {s : State} {m : MethodId} {args : Array Value} {below : List Frame} {meth : Method} {c : Code} {cells slots nL : Nat} {Q : State → Prop}
variable {cc : ByteArray} {own : String} {ret : Option FieldType} {D : va_G} {cy : ClassId × ClassId} {g : GT} {A : Nat → Prop} {H0 : Heap} {V : VT} {pc : Nat} {lv : List (Nat × Value)} {st : List Value}
theorem gr_Log_records (C : Cx p s m args meth c cc nL own ret D cy g A) (hnm0 : meth.name = "<init>") {index a v : Nat} {o : Int} (h : isO g 0 a o) (hlink : Cond.fieldLink own index "SlotFile$Log" "records" "[I" ∈ wsG) (hdecl : (TX0 0).1 = own) (hd : decode cc pc = .ok (.putfield index, 3)) (kk : Cx p s m args meth c cc nL own ret D cy (gRef g a 0 v) A → G p l e R s m args below meth c nL cells slots Q D cy (gRef g a 0 v) A H0 V (pc + 3) lv st) : G p l e R s m args below meth c nL cells slots Q D cy g A H0 V pc lv (.ref v :: .ref a :: st) := by
  refine g_putR (Cn := RX0) (T := TX0) (N := 4) (ty := .array .int) C hnm0 in_Log tyX0 tyX0_ok nmX0 rfl h.1 (pF_Log h V) 0 (by decide) hlink rfl hdecl (by decide +kernel) rfl rfl (Nat.le_of_ble_eq_true rfl) ?_ hd kk
  have h' : isO (gRef g a 0 v) 0 a o := h
  rw [pF_Log h' V, R_at, R_ne (Or.inr (show 1 ≠ 0 by decide)), R_ne (Or.inr (show 2 ≠ 0 by decide))]
  rfl
theorem gr_Log_lengths (C : Cx p s m args meth c cc nL own ret D cy g A) (hnm0 : meth.name = "<init>") {index a v : Nat} {o : Int} (h : isO g 0 a o) (hlink : Cond.fieldLink own index "SlotFile$Log" "lengths" "[I" ∈ wsG) (hdecl : (TX0 1).1 = own) (hd : decode cc pc = .ok (.putfield index, 3)) (kk : Cx p s m args meth c cc nL own ret D cy (gRef g a 1 v) A → G p l e R s m args below meth c nL cells slots Q D cy (gRef g a 1 v) A H0 V (pc + 3) lv st) : G p l e R s m args below meth c nL cells slots Q D cy g A H0 V pc lv (.ref v :: .ref a :: st) := by
  refine g_putR (Cn := RX0) (T := TX0) (N := 4) (ty := .array .int) C hnm0 in_Log tyX0 tyX0_ok nmX0 rfl h.1 (pF_Log h V) 1 (by decide) hlink rfl hdecl (by decide +kernel) rfl rfl (Nat.le_of_ble_eq_true rfl) ?_ hd kk
  have h' : isO (gRef g a 1 v) 0 a o := h
  rw [pF_Log h' V, R_at, R_ne (Or.inr (show 0 ≠ 1 by decide)), R_ne (Or.inr (show 2 ≠ 1 by decide))]
  rfl
theorem gr_Log_seeds (C : Cx p s m args meth c cc nL own ret D cy g A) (hnm0 : meth.name = "<init>") {index a v : Nat} {o : Int} (h : isO g 0 a o) (hlink : Cond.fieldLink own index "SlotFile$Log" "seeds" "[I" ∈ wsG) (hdecl : (TX0 2).1 = own) (hd : decode cc pc = .ok (.putfield index, 3)) (kk : Cx p s m args meth c cc nL own ret D cy (gRef g a 2 v) A → G p l e R s m args below meth c nL cells slots Q D cy (gRef g a 2 v) A H0 V (pc + 3) lv st) : G p l e R s m args below meth c nL cells slots Q D cy g A H0 V pc lv (.ref v :: .ref a :: st) := by
  refine g_putR (Cn := RX0) (T := TX0) (N := 4) (ty := .array .int) C hnm0 in_Log tyX0 tyX0_ok nmX0 rfl h.1 (pF_Log h V) 2 (by decide) hlink rfl hdecl (by decide +kernel) rfl rfl (Nat.le_of_ble_eq_true rfl) ?_ hd kk
  have h' : isO (gRef g a 2 v) 0 a o := h
  rw [pF_Log h' V, R_at, R_ne (Or.inr (show 0 ≠ 2 by decide)), R_ne (Or.inr (show 1 ≠ 2 by decide))]
  rfl
theorem li_Log : Cond.instantiable RX0 4 ∈ wsG := List.mem_filter.mpr ⟨by decide +kernel, rfl⟩
theorem lz_Log : Cond.initialized RX0 ∈ wsG := List.mem_filter.mpr ⟨by decide +kernel, rfl⟩
theorem gn_Log (C : Cx p s m args meth c cc nL own ret D cy g A) (hA : ∀ q, H0.size ≤ q → A q) {index : Nat} (hcl : Cond.classLink own index RX0 ∈ wsG) (o : Int) (hf : ∀ b ∈ gL g, ¬ (gO g b = o ∧ gT g b = 0)) (hV : ∀ j, V o 0 j = 0) (hc : cells + 1 ≤ R.cells) (hs : slots + 4 ≤ R.slots) (hd : decode cc pc = .ok (.new index, 3))
    (kk : ∀ q, q ∉ gL g → A q → Cx p s m args meth c cc nL own ret D cy (gAdd g q 0 0 o 0) A → G p l e R s m args below meth c nL (cells + 1) (slots + 4) Q D cy (gAdd g q 0 0 o 0) A H0 V (pc + 3) lv (.ref q :: st)) : G p l e R s m args below meth c nL cells slots Q D cy g A H0 V pc lv st := by
  refine g_newO (T := TX0) (N := 4) (ci := 0) (fs := [.null, .null, .null, .int 0]) C hA in_Log tyX0 tyX0_ok hcl li_Log lz_Log rfl (by decide +kernel) o hf (fun q => ?_) hc hs hd kk
  have eR : gR (gAdd g q 0 0 o 0) q = fun _ => none := if_pos rfl
  rw [pF_Log (isO_new (k := 0)) V, eR]
  simp only [hV]
  rfl
theorem gr_Page_kinds (C : Cx p s m args meth c cc nL own ret D cy g A) (hnm0 : meth.name = "<init>") {index a v : Nat} {o : Int} (h : isO g 1 a o) (hlink : Cond.fieldLink own index "SlotFile$Page" "kinds" "[I" ∈ wsG) (hdecl : (TX1 9).1 = own) (hd : decode cc pc = .ok (.putfield index, 3)) (kk : Cx p s m args meth c cc nL own ret D cy (gRef g a 9 v) A → G p l e R s m args below meth c nL cells slots Q D cy (gRef g a 9 v) A H0 V (pc + 3) lv st) : G p l e R s m args below meth c nL cells slots Q D cy g A H0 V pc lv (.ref v :: .ref a :: st) := by
  refine g_putR (Cn := RX1) (T := TX1) (N := 13) (ty := .array .int) C hnm0 in_Page tyX1 tyX1_ok nmX1 rfl h.1 (pF_Page h V) 9 (by decide) hlink rfl hdecl (by decide +kernel) rfl rfl (Nat.le_of_ble_eq_true rfl) ?_ hd kk
  have h' : isO (gRef g a 9 v) 1 a o := h
  rw [pF_Page h' V, R_at, R_ne (Or.inr (show 10 ≠ 9 by decide)), R_ne (Or.inr (show 11 ≠ 9 by decide)), R_ne (Or.inr (show 12 ≠ 9 by decide))]
  rfl
theorem gr_Page_lengths (C : Cx p s m args meth c cc nL own ret D cy g A) (hnm0 : meth.name = "<init>") {index a v : Nat} {o : Int} (h : isO g 1 a o) (hlink : Cond.fieldLink own index "SlotFile$Page" "lengths" "[I" ∈ wsG) (hdecl : (TX1 10).1 = own) (hd : decode cc pc = .ok (.putfield index, 3)) (kk : Cx p s m args meth c cc nL own ret D cy (gRef g a 10 v) A → G p l e R s m args below meth c nL cells slots Q D cy (gRef g a 10 v) A H0 V (pc + 3) lv st) : G p l e R s m args below meth c nL cells slots Q D cy g A H0 V pc lv (.ref v :: .ref a :: st) := by
  refine g_putR (Cn := RX1) (T := TX1) (N := 13) (ty := .array .int) C hnm0 in_Page tyX1 tyX1_ok nmX1 rfl h.1 (pF_Page h V) 10 (by decide) hlink rfl hdecl (by decide +kernel) rfl rfl (Nat.le_of_ble_eq_true rfl) ?_ hd kk
  have h' : isO (gRef g a 10 v) 1 a o := h
  rw [pF_Page h' V, R_at, R_ne (Or.inr (show 9 ≠ 10 by decide)), R_ne (Or.inr (show 11 ≠ 10 by decide)), R_ne (Or.inr (show 12 ≠ 10 by decide))]
  rfl
theorem gr_Page_seeds (C : Cx p s m args meth c cc nL own ret D cy g A) (hnm0 : meth.name = "<init>") {index a v : Nat} {o : Int} (h : isO g 1 a o) (hlink : Cond.fieldLink own index "SlotFile$Page" "seeds" "[I" ∈ wsG) (hdecl : (TX1 11).1 = own) (hd : decode cc pc = .ok (.putfield index, 3)) (kk : Cx p s m args meth c cc nL own ret D cy (gRef g a 11 v) A → G p l e R s m args below meth c nL cells slots Q D cy (gRef g a 11 v) A H0 V (pc + 3) lv st) : G p l e R s m args below meth c nL cells slots Q D cy g A H0 V pc lv (.ref v :: .ref a :: st) := by
  refine g_putR (Cn := RX1) (T := TX1) (N := 13) (ty := .array .int) C hnm0 in_Page tyX1 tyX1_ok nmX1 rfl h.1 (pF_Page h V) 11 (by decide) hlink rfl hdecl (by decide +kernel) rfl rfl (Nat.le_of_ble_eq_true rfl) ?_ hd kk
  have h' : isO (gRef g a 11 v) 1 a o := h
  rw [pF_Page h' V, R_at, R_ne (Or.inr (show 9 ≠ 11 by decide)), R_ne (Or.inr (show 10 ≠ 11 by decide)), R_ne (Or.inr (show 12 ≠ 11 by decide))]
  rfl
theorem gr_Page_links (C : Cx p s m args meth c cc nL own ret D cy g A) (hnm0 : meth.name = "<init>") {index a v : Nat} {o : Int} (h : isO g 1 a o) (hlink : Cond.fieldLink own index "SlotFile$Page" "links" "[I" ∈ wsG) (hdecl : (TX1 12).1 = own) (hd : decode cc pc = .ok (.putfield index, 3)) (kk : Cx p s m args meth c cc nL own ret D cy (gRef g a 12 v) A → G p l e R s m args below meth c nL cells slots Q D cy (gRef g a 12 v) A H0 V (pc + 3) lv st) : G p l e R s m args below meth c nL cells slots Q D cy g A H0 V pc lv (.ref v :: .ref a :: st) := by
  refine g_putR (Cn := RX1) (T := TX1) (N := 13) (ty := .array .int) C hnm0 in_Page tyX1 tyX1_ok nmX1 rfl h.1 (pF_Page h V) 12 (by decide) hlink rfl hdecl (by decide +kernel) rfl rfl (Nat.le_of_ble_eq_true rfl) ?_ hd kk
  have h' : isO (gRef g a 12 v) 1 a o := h
  rw [pF_Page h' V, R_at, R_ne (Or.inr (show 9 ≠ 12 by decide)), R_ne (Or.inr (show 10 ≠ 12 by decide)), R_ne (Or.inr (show 11 ≠ 12 by decide))]
  rfl
theorem li_Page : Cond.instantiable RX1 13 ∈ wsG := List.mem_filter.mpr ⟨by decide +kernel, rfl⟩
theorem lz_Page : Cond.initialized RX1 ∈ wsG := List.mem_filter.mpr ⟨by decide +kernel, rfl⟩
theorem gn_Page (C : Cx p s m args meth c cc nL own ret D cy g A) (hA : ∀ q, H0.size ≤ q → A q) {index : Nat} (hcl : Cond.classLink own index RX1 ∈ wsG) (o : Int) (hf : ∀ b ∈ gL g, ¬ (gO g b = o ∧ gT g b = 0)) (hV : ∀ j, V o 0 j = 0) (hc : cells + 1 ≤ R.cells) (hs : slots + 13 ≤ R.slots) (hd : decode cc pc = .ok (.new index, 3))
    (kk : ∀ q, q ∉ gL g → A q → Cx p s m args meth c cc nL own ret D cy (gAdd g q 1 0 o 0) A → G p l e R s m args below meth c nL (cells + 1) (slots + 13) Q D cy (gAdd g q 1 0 o 0) A H0 V (pc + 3) lv (.ref q :: st)) : G p l e R s m args below meth c nL cells slots Q D cy g A H0 V pc lv st := by
  refine g_newO (T := TX1) (N := 13) (ci := 1) (fs := [.int 0, .int 0, .int 0, .int 0, .int 0, .int 0, .int 0, .int 0, .int 0, .null, .null, .null, .null]) C hA in_Page tyX1 tyX1_ok hcl li_Page lz_Page rfl (by decide +kernel) o hf (fun q => ?_) hc hs hd kk
  have eR : gR (gAdd g q 1 0 o 0) q = fun _ => none := if_pos rfl
  rw [pF_Page (isO_new (k := 1)) V, eR]
  simp only [hV]
  rfl
theorem gr_Store_pages (C : Cx p s m args meth c cc nL own ret D cy g A) (hnm0 : meth.name = "<init>") {index a v : Nat} {o : Int} (h : isO g 2 a o) (hlink : Cond.fieldLink own index "SlotFile$Store" "pages" "[LSlotFile$Page;" ∈ wsG) (hdecl : (TX2 0).1 = own) (hd : decode cc pc = .ok (.putfield index, 3)) (kk : Cx p s m args meth c cc nL own ret D cy (gRef g a 0 v) A → G p l e R s m args below meth c nL cells slots Q D cy (gRef g a 0 v) A H0 V (pc + 3) lv st) : G p l e R s m args below meth c nL cells slots Q D cy g A H0 V pc lv (.ref v :: .ref a :: st) := by
  refine g_putR (Cn := RX2) (T := TX2) (N := 1) (ty := .array (.object "SlotFile$Page")) C hnm0 in_Store tyX2 tyX2_ok nmX2 rfl h.1 (pF_Store h V) 0 (by decide) hlink rfl hdecl (by decide +kernel) rfl rfl (Nat.le_of_ble_eq_true rfl) ?_ hd kk
  have h' : isO (gRef g a 0 v) 2 a o := h
  rw [pF_Store h' V, R_at]
  rfl
theorem li_Store : Cond.instantiable RX2 1 ∈ wsG := List.mem_filter.mpr ⟨by decide +kernel, rfl⟩
theorem lz_Store : Cond.initialized RX2 ∈ wsG := List.mem_filter.mpr ⟨by decide +kernel, rfl⟩
theorem gn_Store (C : Cx p s m args meth c cc nL own ret D cy g A) (hA : ∀ q, H0.size ≤ q → A q) {index : Nat} (hcl : Cond.classLink own index RX2 ∈ wsG) (o : Int) (hf : ∀ b ∈ gL g, ¬ (gO g b = o ∧ gT g b = 0)) (hV : ∀ j, V o 0 j = 0) (hc : cells + 1 ≤ R.cells) (hs : slots + 1 ≤ R.slots) (hd : decode cc pc = .ok (.new index, 3))
    (kk : ∀ q, q ∉ gL g → A q → Cx p s m args meth c cc nL own ret D cy (gAdd g q 2 0 o 0) A → G p l e R s m args below meth c nL (cells + 1) (slots + 1) Q D cy (gAdd g q 2 0 o 0) A H0 V (pc + 3) lv (.ref q :: st)) : G p l e R s m args below meth c nL cells slots Q D cy g A H0 V pc lv st := by
  refine g_newO (T := TX2) (N := 1) (ci := 2) (fs := [.null]) C hA in_Store tyX2 tyX2_ok hcl li_Store lz_Store rfl (by decide +kernel) o hf (fun q => ?_) hc hs hd kk
  have eR : gR (gAdd g q 2 0 o 0) q = fun _ => none := if_pos rfl
  rw [pF_Store (isO_new (k := 2)) V, eR]
  skip
  rfl
theorem gr_Sf_live (C : Cx p s m args meth c cc nL own ret D cy g A) (hnm0 : meth.name = "<init>") {index a v : Nat} {o : Int} (h : isO g 3 a o) (hlink : Cond.fieldLink own index "SlotFile" "live" "LSlotFile$Store;" ∈ wsG) (hdecl : (TX3 0).1 = own) (hd : decode cc pc = .ok (.putfield index, 3)) (kk : Cx p s m args meth c cc nL own ret D cy (gRef g a 0 v) A → G p l e R s m args below meth c nL cells slots Q D cy (gRef g a 0 v) A H0 V (pc + 3) lv st) : G p l e R s m args below meth c nL cells slots Q D cy g A H0 V pc lv (.ref v :: .ref a :: st) := by
  refine g_putR (Cn := RX3) (T := TX3) (N := 4) (ty := .object "SlotFile$Store") C hnm0 in_Sf tyX3 tyX3_ok nmX3 rfl h.1 (pF_Sf h V) 0 (by decide) hlink rfl hdecl (by decide +kernel) rfl rfl (Nat.le_of_ble_eq_true rfl) ?_ hd kk
  have h' : isO (gRef g a 0 v) 3 a o := h
  rw [pF_Sf h' V, R_at, R_ne (Or.inr (show 1 ≠ 0 by decide)), R_ne (Or.inr (show 2 ≠ 0 by decide))]
  rfl
theorem gr_Sf_synced (C : Cx p s m args meth c cc nL own ret D cy g A) (hnm0 : meth.name = "<init>") {index a v : Nat} {o : Int} (h : isO g 3 a o) (hlink : Cond.fieldLink own index "SlotFile" "synced" "LSlotFile$Store;" ∈ wsG) (hdecl : (TX3 1).1 = own) (hd : decode cc pc = .ok (.putfield index, 3)) (kk : Cx p s m args meth c cc nL own ret D cy (gRef g a 1 v) A → G p l e R s m args below meth c nL cells slots Q D cy (gRef g a 1 v) A H0 V (pc + 3) lv st) : G p l e R s m args below meth c nL cells slots Q D cy g A H0 V pc lv (.ref v :: .ref a :: st) := by
  refine g_putR (Cn := RX3) (T := TX3) (N := 4) (ty := .object "SlotFile$Store") C hnm0 in_Sf tyX3 tyX3_ok nmX3 rfl h.1 (pF_Sf h V) 1 (by decide) hlink rfl hdecl (by decide +kernel) rfl rfl (Nat.le_of_ble_eq_true rfl) ?_ hd kk
  have h' : isO (gRef g a 1 v) 3 a o := h
  rw [pF_Sf h' V, R_at, R_ne (Or.inr (show 0 ≠ 1 by decide)), R_ne (Or.inr (show 2 ≠ 1 by decide))]
  rfl
theorem gr_Sf_log (C : Cx p s m args meth c cc nL own ret D cy g A) (hnm0 : meth.name = "<init>") {index a v : Nat} {o : Int} (h : isO g 3 a o) (hlink : Cond.fieldLink own index "SlotFile" "log" "LSlotFile$Log;" ∈ wsG) (hdecl : (TX3 2).1 = own) (hd : decode cc pc = .ok (.putfield index, 3)) (kk : Cx p s m args meth c cc nL own ret D cy (gRef g a 2 v) A → G p l e R s m args below meth c nL cells slots Q D cy (gRef g a 2 v) A H0 V (pc + 3) lv st) : G p l e R s m args below meth c nL cells slots Q D cy g A H0 V pc lv (.ref v :: .ref a :: st) := by
  refine g_putR (Cn := RX3) (T := TX3) (N := 4) (ty := .object "SlotFile$Log") C hnm0 in_Sf tyX3 tyX3_ok nmX3 rfl h.1 (pF_Sf h V) 2 (by decide) hlink rfl hdecl (by decide +kernel) rfl rfl (Nat.le_of_ble_eq_true rfl) ?_ hd kk
  have h' : isO (gRef g a 2 v) 3 a o := h
  rw [pF_Sf h' V, R_at, R_ne (Or.inr (show 0 ≠ 2 by decide)), R_ne (Or.inr (show 1 ≠ 2 by decide))]
  rfl
theorem li_Sf : Cond.instantiable RX3 4 ∈ wsG := List.mem_filter.mpr ⟨by decide +kernel, rfl⟩
theorem lz_Sf : Cond.initialized RX3 ∈ wsG := List.mem_filter.mpr ⟨by decide +kernel, rfl⟩
theorem gn_Sf (C : Cx p s m args meth c cc nL own ret D cy g A) (hA : ∀ q, H0.size ≤ q → A q) {index : Nat} (hcl : Cond.classLink own index RX3 ∈ wsG) (o : Int) (hf : ∀ b ∈ gL g, ¬ (gO g b = o ∧ gT g b = 0)) (hV : ∀ j, V o 0 j = 0) (hc : cells + 1 ≤ R.cells) (hs : slots + 4 ≤ R.slots) (hd : decode cc pc = .ok (.new index, 3))
    (kk : ∀ q, q ∉ gL g → A q → Cx p s m args meth c cc nL own ret D cy (gAdd g q 3 0 o 0) A → G p l e R s m args below meth c nL (cells + 1) (slots + 4) Q D cy (gAdd g q 3 0 o 0) A H0 V (pc + 3) lv (.ref q :: st)) : G p l e R s m args below meth c nL cells slots Q D cy g A H0 V pc lv st := by
  refine g_newO (T := TX3) (N := 4) (ci := 3) (fs := [.null, .null, .null, .int 0]) C hA in_Sf tyX3 tyX3_ok hcl li_Sf lz_Sf rfl (by decide +kernel) o hf (fun q => ?_) hc hs hd kk
  have eR : gR (gAdd g q 3 0 o 0) q = fun _ => none := if_pos rfl
  rw [pF_Sf (isO_new (k := 3)) V, eR]
  simp only [hV]
  rfl
theorem gr_Mod_d (C : Cx p s m args meth c cc nL own ret D cy g A) (hnm0 : meth.name = "<init>") {index a v : Nat} {o : Int} (h : isO g 4 a o) (hlink : Cond.fieldLink own index "SlotFileModel" "d" "[I" ∈ wsG) (hdecl : (TX4 0).1 = own) (hd : decode cc pc = .ok (.putfield index, 3)) (kk : Cx p s m args meth c cc nL own ret D cy (gRef g a 0 v) A → G p l e R s m args below meth c nL cells slots Q D cy (gRef g a 0 v) A H0 V (pc + 3) lv st) : G p l e R s m args below meth c nL cells slots Q D cy g A H0 V pc lv (.ref v :: .ref a :: st) := by
  refine g_putR (Cn := RX4) (T := TX4) (N := 8) (ty := .array .int) C hnm0 in_Mod tyX4 tyX4_ok nmX4 rfl h.1 (pF_Mod h V) 0 (by decide) hlink rfl hdecl (by decide +kernel) rfl rfl (Nat.le_of_ble_eq_true rfl) ?_ hd kk
  have h' : isO (gRef g a 0 v) 4 a o := h
  rw [pF_Mod h' V, R_at, R_ne (Or.inr (show 1 ≠ 0 by decide)), R_ne (Or.inr (show 2 ≠ 0 by decide))]
  rfl
theorem gr_Mod_synced (C : Cx p s m args meth c cc nL own ret D cy g A) (hnm0 : meth.name = "<init>") {index a v : Nat} {o : Int} (h : isO g 4 a o) (hlink : Cond.fieldLink own index "SlotFileModel" "synced" "[I" ∈ wsG) (hdecl : (TX4 1).1 = own) (hd : decode cc pc = .ok (.putfield index, 3)) (kk : Cx p s m args meth c cc nL own ret D cy (gRef g a 1 v) A → G p l e R s m args below meth c nL cells slots Q D cy (gRef g a 1 v) A H0 V (pc + 3) lv st) : G p l e R s m args below meth c nL cells slots Q D cy g A H0 V pc lv (.ref v :: .ref a :: st) := by
  refine g_putR (Cn := RX4) (T := TX4) (N := 8) (ty := .array .int) C hnm0 in_Mod tyX4 tyX4_ok nmX4 rfl h.1 (pF_Mod h V) 1 (by decide) hlink rfl hdecl (by decide +kernel) rfl rfl (Nat.le_of_ble_eq_true rfl) ?_ hd kk
  have h' : isO (gRef g a 1 v) 4 a o := h
  rw [pF_Mod h' V, R_at, R_ne (Or.inr (show 0 ≠ 1 by decide)), R_ne (Or.inr (show 2 ≠ 1 by decide))]
  rfl
theorem gr_Mod_changes (C : Cx p s m args meth c cc nL own ret D cy g A) (hnm0 : meth.name = "<init>") {index a v : Nat} {o : Int} (h : isO g 4 a o) (hlink : Cond.fieldLink own index "SlotFileModel" "changes" "[I" ∈ wsG) (hdecl : (TX4 2).1 = own) (hd : decode cc pc = .ok (.putfield index, 3)) (kk : Cx p s m args meth c cc nL own ret D cy (gRef g a 2 v) A → G p l e R s m args below meth c nL cells slots Q D cy (gRef g a 2 v) A H0 V (pc + 3) lv st) : G p l e R s m args below meth c nL cells slots Q D cy g A H0 V pc lv (.ref v :: .ref a :: st) := by
  refine g_putR (Cn := RX4) (T := TX4) (N := 8) (ty := .array .int) C hnm0 in_Mod tyX4 tyX4_ok nmX4 rfl h.1 (pF_Mod h V) 2 (by decide) hlink rfl hdecl (by decide +kernel) rfl rfl (Nat.le_of_ble_eq_true rfl) ?_ hd kk
  have h' : isO (gRef g a 2 v) 4 a o := h
  rw [pF_Mod h' V, R_at, R_ne (Or.inr (show 0 ≠ 2 by decide)), R_ne (Or.inr (show 1 ≠ 2 by decide))]
  rfl
theorem li_Mod : Cond.instantiable RX4 8 ∈ wsG := List.mem_filter.mpr ⟨by decide +kernel, rfl⟩
theorem lz_Mod : Cond.initialized RX4 ∈ wsG := List.mem_filter.mpr ⟨by decide +kernel, rfl⟩
theorem gn_Mod (C : Cx p s m args meth c cc nL own ret D cy g A) (hA : ∀ q, H0.size ≤ q → A q) {index : Nat} (hcl : Cond.classLink own index RX4 ∈ wsG) (o : Int) (hf : ∀ b ∈ gL g, ¬ (gO g b = o ∧ gT g b = 0)) (hV : ∀ j, V o 0 j = 0) (hc : cells + 1 ≤ R.cells) (hs : slots + 8 ≤ R.slots) (hd : decode cc pc = .ok (.new index, 3))
    (kk : ∀ q, q ∉ gL g → A q → Cx p s m args meth c cc nL own ret D cy (gAdd g q 4 0 o 0) A → G p l e R s m args below meth c nL (cells + 1) (slots + 8) Q D cy (gAdd g q 4 0 o 0) A H0 V (pc + 3) lv (.ref q :: st)) : G p l e R s m args below meth c nL cells slots Q D cy g A H0 V pc lv st := by
  refine g_newO (T := TX4) (N := 8) (ci := 4) (fs := [.null, .null, .null, .int 0, .int 0, .int 0, .int 0, .int 0]) C hA in_Mod tyX4 tyX4_ok hcl li_Mod lz_Mod rfl (by decide +kernel) o hf (fun q => ?_) hc hs hd kk
  have eR : gR (gAdd g q 4 0 o 0) q = fun _ => none := if_pos rfl
  rw [pF_Mod (isO_new (k := 4)) V, eR]
  simp only [hV]
  rfl
end
theorem fr_add {g : GT} {q k n : Nat} {o t o' t' : Int} (h : ∀ b ∈ gL g, ¬ (gO g b = o ∧ gT g b = t)) (ht : o' ≠ o ∨ t' ≠ t) : ∀ b ∈ gL (gAdd g q k n o' t'), ¬ (gO (gAdd g q k n o' t') b = o ∧ gT (gAdd g q k n o' t') b = t) := by
  rintro b hb ⟨e1, e2⟩
  by_cases hne : b = q
  · have eO : gO (gAdd g q k n o' t') b = o' := if_pos hne
    have eT : gT (gAdd g q k n o' t') b = t' := if_pos hne
    rw [eO] at e1
    rw [eT] at e2
    exact ht.elim (fun z => z e1) (fun z => z e2)
  · have eO : gO (gAdd g q k n o' t') b = gO g b := if_neg hne
    have eT : gT (gAdd g q k n o' t') b = gT g b := if_neg hne
    rw [eO] at e1
    rw [eT] at e2
    rcases List.mem_append.mp hb with z | z
    · exact h b z ⟨e1, e2⟩
    · exact hne (List.mem_singleton.mp z)
theorem Gro.mono {a : Nat} {P P' : Int → Prop} {g g' : GT} (h : Gro a P g g') (hP : ∀ o, P o → P' o) : Gro a P' g g' := ⟨h.1, fun b hb => (h.2 b hb).imp id (hP _)⟩
def z0 : Int → Int → Int := fun _ _ => 0
def pgI : Int → Int → Int := upw z0 0 6 (-1)
def stI (V : VT) (b k : Int) : VT := fun o => if b ≤ o ∧ o < b + k then pgI else V o
def mI (k1 k2 : Int) : Int → Int → Int := fun t j => if t = 1 ∧ ((192 ≤ j ∧ j < 192 + k1) ∨ (6528 ≤ j ∧ j < 6528 + k2) ∨ (15744 ≤ j ∧ j < 15744 + k2)) then -1 else 0
theorem lo_X0 : Cond.methodLink RX0 3 Lib.objectInit ∈ wsG := List.mem_filter.mpr ⟨by decide +kernel, rfl⟩
theorem lo_X1 : Cond.methodLink RX1 3 Lib.objectInit ∈ wsG := List.mem_filter.mpr ⟨by decide +kernel, rfl⟩
theorem lo_X2 : Cond.methodLink RX2 3 Lib.objectInit ∈ wsG := List.mem_filter.mpr ⟨by decide +kernel, rfl⟩
theorem lo_X3 : Cond.methodLink RX3 3 Lib.objectInit ∈ wsG := List.mem_filter.mpr ⟨by decide +kernel, rfl⟩
theorem lo_X4 : Cond.methodLink RX4 1 Lib.objectInit ∈ wsG := List.mem_filter.mpr ⟨by decide +kernel, rfl⟩
theorem lc_29 : Cond.classLink RX2 9 RX1 ∈ wsG := List.mem_filter.mpr ⟨by decide +kernel, rfl⟩
theorem lc_39 : Cond.classLink RX3 9 RX2 ∈ wsG := List.mem_filter.mpr ⟨by decide +kernel, rfl⟩
theorem lc_319 : Cond.classLink RX3 19 RX0 ∈ wsG := List.mem_filter.mpr ⟨by decide +kernel, rfl⟩
theorem lki_X2_17 : LkIN RX2 17 yX1_init cX1_init 1 := ⟨⟨List.mem_of_getElem? (i := 0) rfl, List.mem_filter.mpr ⟨by decide +kernel, rfl⟩, lz_Page, List.mem_filter.mpr ⟨by decide +kernel, rfl⟩⟩, ⟨by decide +kernel, by decide +kernel, by decide +kernel⟩, rfl⟩
theorem lki_X3_11 : LkI RX3 11 yX2_init cX2_init 2 := ⟨⟨List.mem_filter.mpr ⟨by decide +kernel, rfl⟩, List.mem_filter.mpr ⟨by decide +kernel, rfl⟩, lz_Store, List.mem_filter.mpr ⟨by decide +kernel, rfl⟩⟩, ⟨by decide +kernel, by decide +kernel, by decide +kernel⟩, rfl⟩
theorem lki_X3_21 : LkIN RX3 21 yX0_init cX0_init 1 := ⟨⟨List.mem_of_getElem? (i := 19) rfl, List.mem_filter.mpr ⟨by decide +kernel, rfl⟩, lz_Log, List.mem_filter.mpr ⟨by decide +kernel, rfl⟩⟩, ⟨by decide +kernel, by decide +kernel, by decide +kernel⟩, rfl⟩

theorem isO_in {g : GT} {ci a : Nat} {o : Int} (h : isO g ci a o) : a ∈ gL g := h.1
set_option maxHeartbeats 4000000 in
set_option maxRecDepth 100000 in
theorem c_X1_init (l : Launch) (D : va_G) (cy : ClassId × ClassId) (g : GT) (V : VT) (a : Nat) (o : Int) (n0 : Nat) (hap : Apart g) (ho0 : isO g 1 a o) (hf : ∀ b ∈ gL g, gO g b = o → b = a) : MetN l yX1_init cX1_init 1 1 4 128 D cy g [.ref a] (setp V o z0) n0 (fun g' V' => Gro a (fun x => x = o) g g' ∧ isPg g' a o ∧ V' = setp V o pgI) := by
  have hT : gT g a = 0 := ho0.2.2.2
  have hft : ∀ t : Int, t ≠ 0 → ∀ b ∈ gL g, ¬ (gO g b = o ∧ gT g b = t) := fun t ht b hb z => ht (by rw [← z.2, hf b hb z.1]; exact hT)
  have hf1 := hft 1 (by decide)
  have hf2 := hft 2 (by decide)
  have hf3 := hft 3 (by decide)
  have hf4 := hft 4 (by decide)
  have hG : Gro a (fun x => x = o) g g := Gro.rfl
  have ho := ho0
  refine MetN.of (by decide) rfl (Nat.le_of_ble_eq_true rfl) hap ?_
  intro p_ e_ s_ m_ args_ below_ meth_ c_ C hnm hAO hA
  refine g_aload_n C 0 rfl dX1_init_0 ?_
  refine g_objI C lo_X1 (Nat.le_of_ble_eq_true rfl) (Nat.le_of_ble_eq_true rfl) dX1_init_1 ?_
  refine g_aload_n C 0 rfl dX1_init_4 ?_
  refine g_iconst C 0 rfl dX1_init_5 ?_
  refine sp_Page_kind C ho lf_X1_9 dX1_init_6 ?_
  refine g_aload_n C 0 rfl dX1_init_9 ?_
  refine g_iconst C 0 rfl dX1_init_10 ?_
  refine sp_Page_slots C ho lf_X1_15 dX1_init_11 ?_
  refine g_aload_n C 0 rfl dX1_init_14 ?_
  refine g_iconst C 0 rfl dX1_init_15 ?_
  refine sp_Page_cells C ho lf_X1_18 dX1_init_16 ?_
  refine g_aload_n C 0 rfl dX1_init_19 ?_
  refine g_iconst C 0 rfl dX1_init_20 ?_
  refine sp_Page_stubs C ho lf_X1_21 dX1_init_21 ?_
  refine g_aload_n C 0 rfl dX1_init_24 ?_
  refine g_iconst C 0 rfl dX1_init_25 ?_
  refine sp_Page_used C ho lf_X1_24 dX1_init_26 ?_
  refine g_aload_n C 0 rfl dX1_init_29 ?_
  refine g_iconst C 0 rfl dX1_init_30 ?_
  refine sp_Page_end C ho lf_X1_27 dX1_init_31 ?_
  refine g_aload_n C 0 rfl dX1_init_34 ?_
  refine g_iconst C (-1) rfl dX1_init_35 ?_
  refine sp_Page_chainNext C ho lf_X1_30 dX1_init_36 ?_
  refine g_aload_n C 0 rfl dX1_init_39 ?_
  refine g_iconst C 0 rfl dX1_init_40 ?_
  refine sp_Page_chainBytes C ho lf_X1_33 dX1_init_41 ?_
  refine g_aload_n C 0 rfl dX1_init_44 ?_
  refine g_iconst C 0 rfl dX1_init_45 ?_
  refine sp_Page_compactings C ho lf_X1_36 dX1_init_46 ?_
  refine g_V (show _ = setp V o pgI from congrArg (setp V o) (by funext t j; unfold pgI z0 upw; by_cases h0 : t = 0 <;> simp [h0]; omega)) ?_
  refine g_aload_n C 0 rfl dX1_init_49 ?_
  refine g_bipush C 32 rfl dX1_init_50 ?_
  refine g_newI C hA o 1 32 (by decide) hf1 (fun j => by rw [setp_at]; simp [pgI, upw, z0]) (Nat.le_of_ble_eq_true rfl) (Nat.le_of_ble_eq_true rfl) dX1_init_52 ?_
  intro q1 hq1 hAq1 C
  have ha1 : a ∈ _ := C.2.2.2.2.1 |> fun _ => (isO_in (show isO _ 1 a o from (hG.add (k := 5) (n := 32) (t := 1) hq1 rfl).isO ho0))
  have hG := hG.add (k := 5) (n := 32) (t := 1) hq1 rfl
  have ho := hG.isO ho0
  have hf2 := fr_add (q := q1) (k := 5) (n := 32) (o' := o) (t' := 1) hf2 (Or.inr (by decide))
  have hf3 := fr_add (q := q1) (k := 5) (n := 32) (o' := o) (t' := 1) hf3 (Or.inr (by decide))
  have hf4 := fr_add (q := q1) (k := 5) (n := 32) (o' := o) (t' := 1) hf4 (Or.inr (by decide))
  refine gr_Page_kinds C hnm ho lf_X1_39 rfl dX1_init_54 ?_
  intro C
  have hG := hG.ref (x := a) (j := 9) (v := q1) (Or.inl rfl)
  have ho := hG.isO ho0
  refine g_aload_n C 0 rfl dX1_init_57 ?_
  refine g_bipush C 32 rfl dX1_init_58 ?_
  refine g_newI C hA o 2 32 (by decide) hf2 (fun j => by rw [setp_at]; simp [pgI, upw, z0]) (Nat.le_of_ble_eq_true rfl) (Nat.le_of_ble_eq_true rfl) dX1_init_60 ?_
  intro q2 hq2 hAq2 C
  have ha2 : a ∈ _ := C.2.2.2.2.1 |> fun _ => (isO_in (show isO _ 1 a o from (hG.add (k := 5) (n := 32) (t := 2) hq2 rfl).isO ho0))
  have hG := hG.add (k := 5) (n := 32) (t := 2) hq2 rfl
  have ho := hG.isO ho0
  have hf3 := fr_add (q := q2) (k := 5) (n := 32) (o' := o) (t' := 2) hf3 (Or.inr (by decide))
  have hf4 := fr_add (q := q2) (k := 5) (n := 32) (o' := o) (t' := 2) hf4 (Or.inr (by decide))
  refine gr_Page_lengths C hnm ho lf_X1_43 rfl dX1_init_62 ?_
  intro C
  have hG := hG.ref (x := a) (j := 10) (v := q2) (Or.inl rfl)
  have ho := hG.isO ho0
  refine g_aload_n C 0 rfl dX1_init_65 ?_
  refine g_bipush C 32 rfl dX1_init_66 ?_
  refine g_newI C hA o 3 32 (by decide) hf3 (fun j => by rw [setp_at]; simp [pgI, upw, z0]) (Nat.le_of_ble_eq_true rfl) (Nat.le_of_ble_eq_true rfl) dX1_init_68 ?_
  intro q3 hq3 hAq3 C
  have ha3 : a ∈ _ := C.2.2.2.2.1 |> fun _ => (isO_in (show isO _ 1 a o from (hG.add (k := 5) (n := 32) (t := 3) hq3 rfl).isO ho0))
  have hG := hG.add (k := 5) (n := 32) (t := 3) hq3 rfl
  have ho := hG.isO ho0
  have hf4 := fr_add (q := q3) (k := 5) (n := 32) (o' := o) (t' := 3) hf4 (Or.inr (by decide))
  refine gr_Page_seeds C hnm ho lf_X1_46 rfl dX1_init_70 ?_
  intro C
  have hG := hG.ref (x := a) (j := 11) (v := q3) (Or.inl rfl)
  have ho := hG.isO ho0
  refine g_aload_n C 0 rfl dX1_init_73 ?_
  refine g_bipush C 32 rfl dX1_init_74 ?_
  refine g_newI C hA o 4 32 (by decide) hf4 (fun j => by rw [setp_at]; simp [pgI, upw, z0]) (Nat.le_of_ble_eq_true rfl) (Nat.le_of_ble_eq_true rfl) dX1_init_76 ?_
  intro q4 hq4 hAq4 C
  have ha4 : a ∈ _ := C.2.2.2.2.1 |> fun _ => (isO_in (show isO _ 1 a o from (hG.add (k := 5) (n := 32) (t := 4) hq4 rfl).isO ho0))
  have hG := hG.add (k := 5) (n := 32) (t := 4) hq4 rfl
  have ho := hG.isO ho0
  refine gr_Page_links C hnm ho lf_X1_49 rfl dX1_init_78 ?_
  intro C
  have hG := hG.ref (x := a) (j := 12) (v := q4) (Or.inl rfl)
  have ho := hG.isO ho0
  refine g_nret C (Nat.le_of_ble_eq_true rfl) (Nat.le_of_ble_eq_true rfl) dX1_init_81 ⟨hG, ⟨ho, q1, q2, q3, q4, ⟨?_, ?_⟩, ⟨?_, ?_⟩, ⟨?_, ?_⟩, ⟨?_, ?_⟩⟩, rfl⟩
  · rw [R_ne (Or.inr (by decide)), R_add (show a ≠ q4 from fun e => hq4 (e ▸ (ha3))), R_ne (Or.inr (by decide)), R_add (show a ≠ q3 from fun e => hq3 (e ▸ (ha2))), R_ne (Or.inr (by decide)), R_add (show a ≠ q2 from fun e => hq2 (e ▸ (ha1))), R_at]
  · exact ((((Gro.rfl (a := a) (P := fun _ => True)).add (k := 5) (n := 32) (o := o) (t := 4) hq4 trivial)).ref (x := a) (j := 12) (v := q4) (Or.inl rfl)).isA (((((Gro.rfl (a := a) (P := fun _ => True)).add (k := 5) (n := 32) (o := o) (t := 3) hq3 trivial)).ref (x := a) (j := 11) (v := q3) (Or.inl rfl)).isA (((((Gro.rfl (a := a) (P := fun _ => True)).add (k := 5) (n := 32) (o := o) (t := 2) hq2 trivial)).ref (x := a) (j := 10) (v := q2) (Or.inl rfl)).isA isA_new))
  · rw [R_ne (Or.inr (by decide)), R_add (show a ≠ q4 from fun e => hq4 (e ▸ (ha3))), R_ne (Or.inr (by decide)), R_add (show a ≠ q3 from fun e => hq3 (e ▸ (ha2))), R_at]
  · exact ((((Gro.rfl (a := a) (P := fun _ => True)).add (k := 5) (n := 32) (o := o) (t := 4) hq4 trivial)).ref (x := a) (j := 12) (v := q4) (Or.inl rfl)).isA (((((Gro.rfl (a := a) (P := fun _ => True)).add (k := 5) (n := 32) (o := o) (t := 3) hq3 trivial)).ref (x := a) (j := 11) (v := q3) (Or.inl rfl)).isA isA_new)
  · rw [R_ne (Or.inr (by decide)), R_add (show a ≠ q4 from fun e => hq4 (e ▸ (ha3))), R_at]
  · exact ((((Gro.rfl (a := a) (P := fun _ => True)).add (k := 5) (n := 32) (o := o) (t := 4) hq4 trivial)).ref (x := a) (j := 12) (v := q4) (Or.inl rfl)).isA isA_new
  · exact R_at
  · exact isA_new
