/-! PageOwnersModel(): the cells of the reference -/
def PM : List (Nat × Nat) := (20, 0) :: [(21, 0), (22, 0), (23, 0), (24, 0), (25, 0), (26, 0), (27, 0), (28, 0), (29, 0), (30, 0), (31, 0), (32, 0), (33, 0), (34, 0), (35, 0), (36, 0), (37, 0), (38, 0), (39, 0), (41, 0), (42, 0), (43, 0), (44, 0)]
def PA : List (Nat × Nat) := PC ++ PM
abbrev e20r : va_E := .inr (5, [.int 0, .null, .null, .null, .null, .null, .null, .null, .null, .null, .null, .null, .null, .null, .null, .null, .null, .null, .null, .null, .int 0, .null, .null, .null, .null])
theorem iw_X5_init_X5 : ∀ w ∈ wsX50, w ∈ wsX5_init := fun _ h => List.mem_cons_of_mem _ (List.mem_append_right _ h)
theorem PC_lt {i : Nat × Nat} (h : i ∈ PC) : i.1 < 20 := by
  rcases List.mem_append.mp h with h | h
  · have := PB_mem.mp h; omega
  · have := QP_mem.mp h; omega
theorem PM_ge {i : Nat × Nat} (h : i ∈ PM) : 20 ≤ i.1 ∧ i.2 = 0 := by
  simp only [PM, List.mem_cons, List.not_mem_nil, or_false] at h
  rcases h with rfl | rfl | rfl | rfl | rfl | rfl | rfl | rfl | rfl | rfl | rfl | rfl | rfl | rfl | rfl | rfl | rfl | rfl | rfl | rfl | rfl | rfl | rfl | rfl <;> decide
theorem InC_PA : InC PA := fun a k ha hk => List.mem_append_left _ (InC_PC a k ha hk)
theorem InM_PA : InM PA := by
  intro a k h1 h2 hk
  have hk0 : k = 0 := by
    unfold nk at hk
    rw [if_neg (by omega), if_neg (by omega), if_neg (by omega), if_neg (by omega)] at hk
    split at hk
    · omega
    · omega
  subst hk0
  have h40 : a ≠ 40 := by rintro rfl; revert hk; decide
  refine List.mem_append_right _ ?_
  rcases (show a = 20 ∨ a = 21 ∨ a = 22 ∨ a = 23 ∨ a = 24 ∨ a = 25 ∨ a = 26 ∨ a = 27 ∨ a = 28 ∨ a = 29 ∨ a = 30 ∨ a = 31 ∨ a = 32 ∨ a = 33 ∨ a = 34 ∨ a = 35 ∨ a = 36 ∨ a = 37 ∨ a = 38 ∨ a = 39 ∨ a = 41 ∨ a = 42 ∨ a = 43 ∨ a = 44 by omega) with rfl | rfl | rfl | rfl | rfl | rfl | rfl | rfl | rfl | rfl | rfl | rfl | rfl | rfl | rfl | rfl | rfl | rfl | rfl | rfl | rfl | rfl | rfl | rfl <;> decide
/-- the state when the class is built and the reference begins: its cells are 0 -/
def sgm (σ : Sg) : Sg := (fun a k f => if a < 20 then σ.1 a k f else 0, fun a k f => if a < 20 then σ.2.1 a k f else 0, σ.2.2)
theorem ctt_m {ad : Nat × Nat → Nat} {cy : Nat → ClassId} {σ : Sg} {i : Nat × Nat} (h : i.1 < 20) : ctt ad cy (sgm σ) i = ctt ad cy σ i := by
  simp [ctt, sgm, h]
theorem ctt_adC {ad ad' : Nat × Nat → Nat} {cy : Nat → ClassId} {σ : Sg} (hag : ∀ j, j ∈ PC → ad' j = ad j) {i : Nat × Nat} (hi : i ∈ PC) (hr : ∀ j, j < 32 → σ.2.2 j < 32) {D : va_G} {H : Heap} (h : va_at D vwCl (ad i, ctt ad cy σ i) H) : va_at D vwCl (ad' i, ctt ad' cy σ i) H := by
  rw [hag i hi]
  by_cases h1 : i = (1, 0)
  · subst h1
    have h2 : va_at D vwCl (ad (1, 0), .inl (cy 4, 6, .inr (.inr (.inr (.inr (fun q => some (ad (5, q)))))))) H := h
    exact arr_sw (f' := fun q => some (ad' (5, q))) (fun q hq => by rw [hag (5, q) (List.mem_append_right _ (QP_mem.mpr ⟨⟨Nat.le_refl 5, by simp⟩, hq⟩))]) h2
  · by_cases h4 : i = (4, 0)
    · subst h4
      have h2 : va_at D vwCl (ad (4, 0), .inl (cy 3, 32, .inr (.inr (.inr (.inr (fun q => some (ad (15, σ.2.2 q)))))))) H := h
      exact arr_sw (f' := fun q => some (ad' (15, σ.2.2 q))) (fun q hq => by rw [hag (15, σ.2.2 q) (List.mem_append_left _ (PB_mem.mpr (Or.inr ⟨Or.inl rfl, hr q hq⟩)))]) h2
    · rw [ctt_ad (k := 6) hag hi h1 h4]
      exact h
set_option maxHeartbeats 4000000 in
set_option maxRecDepth 100000 in
theorem c_X5_init (l : Launch) {D : va_G} {ad : Nat × Nat → Nat} {cy : Nat → ClassId} (h0 sz : Nat) (σ : Sg) (hr : ∀ j, j < 32 → σ.2.2 j < 32) (h0e : ad (20, 0) = h0) (Q : Sg → Int32 → Prop) (h : wp_X5_begin (sgm σ) 4 Q) : Met l yX5_init wsX5_init { frames := 1, cells := 23, slots := 3691, locals := 23 } (va_Pc [.ref h0] (fun U => U.heap.size = sz ∧ YW D (fun _ => True) (PC ++ [(20, 0)]) ad (uG (ctt ad cy σ) (20, 0) e20r) U.heap ∧ Kx D cy U)) (va_Qv (fun u : (Nat × Nat → Nat) × Sg × Int32 => (∀ i, i ∈ PC ++ [(20, 0)] → u.1 i = ad i) ∧ Q u.2.1 u.2.2) (fun u t => AdOk PA u.1 ∧ (∀ i, i ∈ PA → AX (PC ++ [(20, 0)]) ad sz (u.1 i)) ∧ Wo D PA u.1 cy u.2.1 t.heap) (AX (PC ++ [(20, 0)]) ad sz)) 23 3691 (AX (PC ++ [(20, 0)]) ad sz) := by
  refine Met.ofW (cc := cX5_init) (maxL := 1) (ret := none) (by decide) rfl ?_
  intro p e s m args below meth c s₁ B hml hv
  obtain ⟨rfl, hsz, hY, hKx⟩ := hv
  have hK := hKx.1
  have hx := B.exec
  have hb := B.bytes
  have hr0 := B.returns
  have hts := atoms_spec (ws := wsX5_init) B.pre
  have hown : s.vm.findClass RX5 = some m.cls := findClass_of_methodNamed B.named
  have hlocks := B.notSynchronized
  have hin : meth.name = "<init>" := (name_of_methodNamed B.named B.method).1
  subst hsz
  have hY := hY.self s.heap.size
  generalize hAe : AX (PC ++ [(20, 0)]) ad s.heap.size = A at hY ⊢
  have hA : ∀ q : Nat, s.heap.size ≤ q → A q := fun q h => by rw [← hAe]; exact Or.inr h
  have hS : va_S A s.heap s.heap [] := va_S.rf
  have hl := lv_entry ([.ref h0] : List Value) (n := 1) (Nat.le_of_ble_eq_true rfl)
  rw [lg_entry_eq]
  generalize (lg_sl ([.ref h0] : List Value) ++ List.replicate (1 - (lg_sl ([.ref h0] : List Value)).length) Slot.unset).toArray = ls at hl ⊢
  have hl : lv_has ls 1 [(0, .ref h0)] := hl
  refine lv_aload_n hx hb dX5_init_0 rfl (lv_at hl 0 rfl) ?_
  refine W.objInit hx hb hown (hts (.methodLink RX5 1 objectInit) (by decide +kernel)) (hts (.instanceMethod objectInit) (by decide +kernel)) (hts (.code objectInit ⟨#[0xb1]⟩ 1 none) (by decide +kernel)) rfl (by rw [hml]; exact hl.1) rfl dX5_init_1 (Nat.le_of_ble_eq_true rfl) (Nat.le_of_ble_eq_true rfl) ?_
  refine W.eq (g2 := F0 m 4 ls []) rfl ?_
  have hPn : ∀ i : Nat × Nat, i ∈ PC ++ [(20, 0)] → i.1 ≤ 20 := fun i hi => by
    rcases List.mem_append.mp hi with z | z
    · exact Nat.le_of_lt (PC_lt z)
    · rw [List.mem_singleton] at z; rw [z]; exact Nat.le_refl 20
  have hi0 : (20, 0) ∈ PC ++ [(20, 0)] := List.mem_append_right _ List.mem_cons_self
  generalize hP0 : PC ++ [(20, 0)] = P0 at hY hPn hi0 ⊢
  have hg0 : uG (ctt ad cy σ) (20, 0) e20r (20, 0) = e20r := uG_s
  generalize hgg : uG (ctt ad cy σ) (20, 0) e20r = g0 at hY hg0
  refine lv_aload_n hx hb dX5_init_4 rfl (lv_at hl 0 rfl) ?_
  refine lv_bipush (v := 48) hx hb dX5_init_5 (by decide) ?_
  refine y_newa (atype := .int) (n := 48) (ty := .int) (N' := 48) (a0 := (48, .inl (fun _ => 0))) hx hb (hts (.arrayClass .int) (by decide +kernel)) rfl hK hY hS hA 0 rfl (ra_p (Or.inl rfl)) (fun _ => rfl) (by decide) (by decide) (by show 48 * 4 ≤ 536870912; omega) (Nat.le_of_ble_eq_true rfl) (Nat.le_of_ble_eq_true rfl) dX5_init_7 (21, 0) (fun z => absurd (hPn _ z) (by simp)) (fun q1 H hY hS => ?_)
  refine y_putF (C := RX5) (T := TX5) (N := 25) (ci := 5) (ty := .array .int) (v := .ref q1) (fs := [.int 0, .null, .null, .null, .null, .null, .null, .null, .null, .null, .null, .null, .null, .null, .null, .null, .null, .null, .null, .null, .int 0, .null, .null, .null, .null]) hx hb hts iw_X5_init_X5 tyX5 tyX5_ok nmX5 hown hK hY hS (20, 0) (List.mem_append_left _ hi0) (by simp [uA, h0e]) (by simp [uG, hg0]) rfl 1 (by decide) (hts (.fieldLink RX5 7 "PageOwnersModel" "access" "[I") (by decide +kernel)) (fun _ h9 => h9) rfl hin rfl (by decide +kernel) rfl rfl (Nat.le_of_ble_eq_true rfl) dX5_init_9 (fun H locs hY hS => ?_)
  refine lv_aload_n hx hb dX5_init_12 rfl (lv_at hl 0 rfl) ?_
  refine lv_bipush (v := 48) hx hb dX5_init_13 (by decide) ?_
  refine y_newa (atype := .boolean) (n := 48) (ty := .boolean) (N' := 48) (a0 := (48, .inl (fun _ => 0))) hx hb (hts (.arrayClass .boolean) (by decide +kernel)) rfl hK hY hS hA 2 rfl (ra_p (Or.inr (Or.inr rfl))) (fun _ => rfl) (by decide) (by decide) (by show 48 * 1 ≤ 536870912; omega) (Nat.le_of_ble_eq_true rfl) (Nat.le_of_ble_eq_true rfl) dX5_init_15 (22, 0) (by simp; exact fun z => absurd (hPn _ z) (by simp)) (fun q2 H hY hS => ?_)
  refine y_putF (C := RX5) (T := TX5) (N := 25) (ci := 5) (ty := .array .boolean) (v := .ref q2) (fs := [.int 0, .ref q1, .null, .null, .null, .null, .null, .null, .null, .null, .null, .null, .null, .null, .null, .null, .null, .null, .null, .null, .int 0, .null, .null, .null, .null]) hx hb hts iw_X5_init_X5 tyX5 tyX5_ok nmX5 hown hK hY hS (20, 0) (List.mem_append_left _ (List.mem_append_left _ hi0)) (by simp [uA, h0e]) (by simp [uG, hg0]) rfl 2 (by decide) (hts (.fieldLink RX5 13 "PageOwnersModel" "isOwner" "[Z") (by decide +kernel)) (fun _ h9 => h9) rfl hin rfl (by decide +kernel) rfl rfl (Nat.le_of_ble_eq_true rfl) dX5_init_17 (fun H locs hY hS => ?_)
  refine lv_aload_n hx hb dX5_init_20 rfl (lv_at hl 0 rfl) ?_
  refine lv_bipush (v := 48) hx hb dX5_init_21 (by decide) ?_
  refine y_newa (atype := .int) (n := 48) (ty := .int) (N' := 48) (a0 := (48, .inl (fun _ => 0))) hx hb (hts (.arrayClass .int) (by decide +kernel)) rfl hK hY hS hA 0 rfl (ra_p (Or.inl rfl)) (fun _ => rfl) (by decide) (by decide) (by show 48 * 4 ≤ 536870912; omega) (Nat.le_of_ble_eq_true rfl) (Nat.le_of_ble_eq_true rfl) dX5_init_23 (23, 0) (by simp; exact fun z => absurd (hPn _ z) (by simp)) (fun q3 H hY hS => ?_)
  refine y_putF (C := RX5) (T := TX5) (N := 25) (ci := 5) (ty := .array .int) (v := .ref q3) (fs := [.int 0, .ref q1, .ref q2, .null, .null, .null, .null, .null, .null, .null, .null, .null, .null, .null, .null, .null, .null, .null, .null, .null, .int 0, .null, .null, .null, .null]) hx hb hts iw_X5_init_X5 tyX5 tyX5_ok nmX5 hown hK hY hS (20, 0) (List.mem_append_left _ (List.mem_append_left _ (List.mem_append_left _ hi0))) (by simp [uA, h0e]) (by simp [uG, hg0]) rfl 3 (by decide) (hts (.fieldLink RX5 17 "PageOwnersModel" "guess" "[I") (by decide +kernel)) (fun _ h9 => h9) rfl hin rfl (by decide +kernel) rfl rfl (Nat.le_of_ble_eq_true rfl) dX5_init_25 (fun H locs hY hS => ?_)
  refine lv_aload_n hx hb dX5_init_28 rfl (lv_at hl 0 rfl) ?_
  refine lv_bipush (v := 48) hx hb dX5_init_29 (by decide) ?_
  refine y_newa (atype := .int) (n := 48) (ty := .int) (N' := 48) (a0 := (48, .inl (fun _ => 0))) hx hb (hts (.arrayClass .int) (by decide +kernel)) rfl hK hY hS hA 0 rfl (ra_p (Or.inl rfl)) (fun _ => rfl) (by decide) (by decide) (by show 48 * 4 ≤ 536870912; omega) (Nat.le_of_ble_eq_true rfl) (Nat.le_of_ble_eq_true rfl) dX5_init_31 (24, 0) (by simp; exact fun z => absurd (hPn _ z) (by simp)) (fun q4 H hY hS => ?_)
  refine y_putF (C := RX5) (T := TX5) (N := 25) (ci := 5) (ty := .array .int) (v := .ref q4) (fs := [.int 0, .ref q1, .ref q2, .ref q3, .null, .null, .null, .null, .null, .null, .null, .null, .null, .null, .null, .null, .null, .null, .null, .null, .int 0, .null, .null, .null, .null]) hx hb hts iw_X5_init_X5 tyX5 tyX5_ok nmX5 hown hK hY hS (20, 0) (List.mem_append_left _ (List.mem_append_left _ (List.mem_append_left _ (List.mem_append_left _ hi0)))) (by simp [uA, h0e]) (by simp [uG, hg0]) rfl 4 (by decide) (hts (.fieldLink RX5 20 "PageOwnersModel" "copies" "[I") (by decide +kernel)) (fun _ h9 => h9) rfl hin rfl (by decide +kernel) rfl rfl (Nat.le_of_ble_eq_true rfl) dX5_init_33 (fun H locs hY hS => ?_)
  refine lv_aload_n hx hb dX5_init_36 rfl (lv_at hl 0 rfl) ?_
  refine lv_sipush (v := 192) hx hb dX5_init_37 (by decide) ?_
  refine y_newa (atype := .long) (n := 192) (ty := .long) (N' := 192) (a0 := (192, .inr (.inl (fun _ => 0)))) hx hb (hts (.arrayClass .long) (by decide +kernel)) rfl hK hY hS hA 1 rfl (ra_p (Or.inr (Or.inl rfl))) (fun _ => rfl) (by decide) (by decide) (by show 192 * 8 ≤ 536870912; omega) (Nat.le_of_ble_eq_true rfl) (Nat.le_of_ble_eq_true rfl) dX5_init_40 (25, 0) (by simp; exact fun z => absurd (hPn _ z) (by simp)) (fun q5 H hY hS => ?_)
  refine y_putF (C := RX5) (T := TX5) (N := 25) (ci := 5) (ty := .array .long) (v := .ref q5) (fs := [.int 0, .ref q1, .ref q2, .ref q3, .ref q4, .null, .null, .null, .null, .null, .null, .null, .null, .null, .null, .null, .null, .null, .null, .null, .int 0, .null, .null, .null, .null]) hx hb hts iw_X5_init_X5 tyX5 tyX5_ok nmX5 hown hK hY hS (20, 0) (List.mem_append_left _ (List.mem_append_left _ (List.mem_append_left _ (List.mem_append_left _ (List.mem_append_left _ hi0))))) (by simp [uA, h0e]) (by simp [uG, hg0]) rfl 5 (by decide) (hts (.fieldLink RX5 23 "PageOwnersModel" "words" "[J") (by decide +kernel)) (fun _ h9 => h9) rfl hin rfl (by decide +kernel) rfl rfl (Nat.le_of_ble_eq_true rfl) dX5_init_42 (fun H locs hY hS => ?_)
  refine lv_aload_n hx hb dX5_init_45 rfl (lv_at hl 0 rfl) ?_
  refine lv_sipush (v := 960) hx hb dX5_init_46 (by decide) ?_
  refine y_newa (atype := .int) (n := 960) (ty := .int) (N' := 960) (a0 := (960, .inl (fun _ => 0))) hx hb (hts (.arrayClass .int) (by decide +kernel)) rfl hK hY hS hA 0 rfl (ra_p (Or.inl rfl)) (fun _ => rfl) (by decide) (by decide) (by show 960 * 4 ≤ 536870912; omega) (Nat.le_of_ble_eq_true rfl) (Nat.le_of_ble_eq_true rfl) dX5_init_49 (26, 0) (by simp; exact fun z => absurd (hPn _ z) (by simp)) (fun q6 H hY hS => ?_)
  refine y_putF (C := RX5) (T := TX5) (N := 25) (ci := 5) (ty := .array .int) (v := .ref q6) (fs := [.int 0, .ref q1, .ref q2, .ref q3, .ref q4, .ref q5, .null, .null, .null, .null, .null, .null, .null, .null, .null, .null, .null, .null, .null, .null, .int 0, .null, .null, .null, .null]) hx hb hts iw_X5_init_X5 tyX5 tyX5_ok nmX5 hown hK hY hS (20, 0) (List.mem_append_left _ (List.mem_append_left _ (List.mem_append_left _ (List.mem_append_left _ (List.mem_append_left _ (List.mem_append_left _ hi0)))))) (by simp [uA, h0e]) (by simp [uG, hg0]) rfl 6 (by decide) (hts (.fieldLink RX5 27 "PageOwnersModel" "queue" "[I") (by decide +kernel)) (fun _ h9 => h9) rfl hin rfl (by decide +kernel) rfl rfl (Nat.le_of_ble_eq_true rfl) dX5_init_51 (fun H locs hY hS => ?_)
  refine lv_aload_n hx hb dX5_init_54 rfl (lv_at hl 0 rfl) ?_
  refine lv_bipush (v := 48) hx hb dX5_init_55 (by decide) ?_
  refine y_newa (atype := .int) (n := 48) (ty := .int) (N' := 48) (a0 := (48, .inl (fun _ => 0))) hx hb (hts (.arrayClass .int) (by decide +kernel)) rfl hK hY hS hA 0 rfl (ra_p (Or.inl rfl)) (fun _ => rfl) (by decide) (by decide) (by show 48 * 4 ≤ 536870912; omega) (Nat.le_of_ble_eq_true rfl) (Nat.le_of_ble_eq_true rfl) dX5_init_57 (27, 0) (by simp; exact fun z => absurd (hPn _ z) (by simp)) (fun q7 H hY hS => ?_)
  refine y_putF (C := RX5) (T := TX5) (N := 25) (ci := 5) (ty := .array .int) (v := .ref q7) (fs := [.int 0, .ref q1, .ref q2, .ref q3, .ref q4, .ref q5, .ref q6, .null, .null, .null, .null, .null, .null, .null, .null, .null, .null, .null, .null, .null, .int 0, .null, .null, .null, .null]) hx hb hts iw_X5_init_X5 tyX5 tyX5_ok nmX5 hown hK hY hS (20, 0) (List.mem_append_left _ (List.mem_append_left _ (List.mem_append_left _ (List.mem_append_left _ (List.mem_append_left _ (List.mem_append_left _ (List.mem_append_left _ hi0))))))) (by simp [uA, h0e]) (by simp [uG, hg0]) rfl 7 (by decide) (hts (.fieldLink RX5 30 "PageOwnersModel" "queued" "[I") (by decide +kernel)) (fun _ h9 => h9) rfl hin rfl (by decide +kernel) rfl rfl (Nat.le_of_ble_eq_true rfl) dX5_init_59 (fun H locs hY hS => ?_)
  refine lv_aload_n hx hb dX5_init_62 rfl (lv_at hl 0 rfl) ?_
  refine lv_bipush (v := 6) hx hb dX5_init_63 (by decide) ?_
  refine y_newa (atype := .int) (n := 6) (ty := .int) (N' := 6) (a0 := (6, .inl (fun _ => 0))) hx hb (hts (.arrayClass .int) (by decide +kernel)) rfl hK hY hS hA 0 rfl (ra_p (Or.inl rfl)) (fun _ => rfl) (by decide) (by decide) (by show 6 * 4 ≤ 536870912; omega) (Nat.le_of_ble_eq_true rfl) (Nat.le_of_ble_eq_true rfl) dX5_init_65 (28, 0) (by simp; exact fun z => absurd (hPn _ z) (by simp)) (fun q8 H hY hS => ?_)
  refine y_putF (C := RX5) (T := TX5) (N := 25) (ci := 5) (ty := .array .int) (v := .ref q8) (fs := [.int 0, .ref q1, .ref q2, .ref q3, .ref q4, .ref q5, .ref q6, .ref q7, .null, .null, .null, .null, .null, .null, .null, .null, .null, .null, .null, .null, .int 0, .null, .null, .null, .null]) hx hb hts iw_X5_init_X5 tyX5 tyX5_ok nmX5 hown hK hY hS (20, 0) (List.mem_append_left _ (List.mem_append_left _ (List.mem_append_left _ (List.mem_append_left _ (List.mem_append_left _ (List.mem_append_left _ (List.mem_append_left _ (List.mem_append_left _ hi0)))))))) (by simp [uA, h0e]) (by simp [uG, hg0]) rfl 8 (by decide) (hts (.fieldLink RX5 33 "PageOwnersModel" "waits" "[I") (by decide +kernel)) (fun _ h9 => h9) rfl hin rfl (by decide +kernel) rfl rfl (Nat.le_of_ble_eq_true rfl) dX5_init_67 (fun H locs hY hS => ?_)
  refine lv_aload_n hx hb dX5_init_70 rfl (lv_at hl 0 rfl) ?_
  refine lv_bipush (v := 6) hx hb dX5_init_71 (by decide) ?_
  refine y_newa (atype := .int) (n := 6) (ty := .int) (N' := 6) (a0 := (6, .inl (fun _ => 0))) hx hb (hts (.arrayClass .int) (by decide +kernel)) rfl hK hY hS hA 0 rfl (ra_p (Or.inl rfl)) (fun _ => rfl) (by decide) (by decide) (by show 6 * 4 ≤ 536870912; omega) (Nat.le_of_ble_eq_true rfl) (Nat.le_of_ble_eq_true rfl) dX5_init_73 (29, 0) (by simp; exact fun z => absurd (hPn _ z) (by simp)) (fun q9 H hY hS => ?_)
  refine y_putF (C := RX5) (T := TX5) (N := 25) (ci := 5) (ty := .array .int) (v := .ref q9) (fs := [.int 0, .ref q1, .ref q2, .ref q3, .ref q4, .ref q5, .ref q6, .ref q7, .ref q8, .null, .null, .null, .null, .null, .null, .null, .null, .null, .null, .null, .int 0, .null, .null, .null, .null]) hx hb hts iw_X5_init_X5 tyX5 tyX5_ok nmX5 hown hK hY hS (20, 0) (List.mem_append_left _ (List.mem_append_left _ (List.mem_append_left _ (List.mem_append_left _ (List.mem_append_left _ (List.mem_append_left _ (List.mem_append_left _ (List.mem_append_left _ (List.mem_append_left _ hi0))))))))) (by simp [uA, h0e]) (by simp [uG, hg0]) rfl 9 (by decide) (hts (.fieldLink RX5 36 "PageOwnersModel" "page" "[I") (by decide +kernel)) (fun _ h9 => h9) rfl hin rfl (by decide +kernel) rfl rfl (Nat.le_of_ble_eq_true rfl) dX5_init_75 (fun H locs hY hS => ?_)
  refine lv_aload_n hx hb dX5_init_78 rfl (lv_at hl 0 rfl) ?_
  refine lv_bipush (v := 6) hx hb dX5_init_79 (by decide) ?_
  refine y_newa (atype := .int) (n := 6) (ty := .int) (N' := 6) (a0 := (6, .inl (fun _ => 0))) hx hb (hts (.arrayClass .int) (by decide +kernel)) rfl hK hY hS hA 0 rfl (ra_p (Or.inl rfl)) (fun _ => rfl) (by decide) (by decide) (by show 6 * 4 ≤ 536870912; omega) (Nat.le_of_ble_eq_true rfl) (Nat.le_of_ble_eq_true rfl) dX5_init_81 (30, 0) (by simp; exact fun z => absurd (hPn _ z) (by simp)) (fun q10 H hY hS => ?_)
  refine y_putF (C := RX5) (T := TX5) (N := 25) (ci := 5) (ty := .array .int) (v := .ref q10) (fs := [.int 0, .ref q1, .ref q2, .ref q3, .ref q4, .ref q5, .ref q6, .ref q7, .ref q8, .ref q9, .null, .null, .null, .null, .null, .null, .null, .null, .null, .null, .int 0, .null, .null, .null, .null]) hx hb hts iw_X5_init_X5 tyX5 tyX5_ok nmX5 hown hK hY hS (20, 0) (List.mem_append_left _ (List.mem_append_left _ (List.mem_append_left _ (List.mem_append_left _ (List.mem_append_left _ (List.mem_append_left _ (List.mem_append_left _ (List.mem_append_left _ (List.mem_append_left _ (List.mem_append_left _ hi0)))))))))) (by simp [uA, h0e]) (by simp [uG, hg0]) rfl 10 (by decide) (hts (.fieldLink RX5 39 "PageOwnersModel" "word" "[I") (by decide +kernel)) (fun _ h9 => h9) rfl hin rfl (by decide +kernel) rfl rfl (Nat.le_of_ble_eq_true rfl) dX5_init_83 (fun H locs hY hS => ?_)
  refine lv_aload_n hx hb dX5_init_86 rfl (lv_at hl 0 rfl) ?_
  refine lv_bipush (v := 6) hx hb dX5_init_87 (by decide) ?_
  refine y_newa (atype := .boolean) (n := 6) (ty := .boolean) (N' := 6) (a0 := (6, .inl (fun _ => 0))) hx hb (hts (.arrayClass .boolean) (by decide +kernel)) rfl hK hY hS hA 2 rfl (ra_p (Or.inr (Or.inr rfl))) (fun _ => rfl) (by decide) (by decide) (by show 6 * 1 ≤ 536870912; omega) (Nat.le_of_ble_eq_true rfl) (Nat.le_of_ble_eq_true rfl) dX5_init_89 (31, 0) (by simp; exact fun z => absurd (hPn _ z) (by simp)) (fun q11 H hY hS => ?_)
  refine y_putF (C := RX5) (T := TX5) (N := 25) (ci := 5) (ty := .array .boolean) (v := .ref q11) (fs := [.int 0, .ref q1, .ref q2, .ref q3, .ref q4, .ref q5, .ref q6, .ref q7, .ref q8, .ref q9, .ref q10, .null, .null, .null, .null, .null, .null, .null, .null, .null, .int 0, .null, .null, .null, .null]) hx hb hts iw_X5_init_X5 tyX5 tyX5_ok nmX5 hown hK hY hS (20, 0) (List.mem_append_left _ (List.mem_append_left _ (List.mem_append_left _ (List.mem_append_left _ (List.mem_append_left _ (List.mem_append_left _ (List.mem_append_left _ (List.mem_append_left _ (List.mem_append_left _ (List.mem_append_left _ (List.mem_append_left _ hi0))))))))))) (by simp [uA, h0e]) (by simp [uG, hg0]) rfl 11 (by decide) (hts (.fieldLink RX5 42 "PageOwnersModel" "isWrite" "[Z") (by decide +kernel)) (fun _ h9 => h9) rfl hin rfl (by decide +kernel) rfl rfl (Nat.le_of_ble_eq_true rfl) dX5_init_91 (fun H locs hY hS => ?_)
  refine lv_aload_n hx hb dX5_init_94 rfl (lv_at hl 0 rfl) ?_
  refine lv_bipush (v := 6) hx hb dX5_init_95 (by decide) ?_
  refine y_newa (atype := .long) (n := 6) (ty := .long) (N' := 6) (a0 := (6, .inr (.inl (fun _ => 0)))) hx hb (hts (.arrayClass .long) (by decide +kernel)) rfl hK hY hS hA 1 rfl (ra_p (Or.inr (Or.inl rfl))) (fun _ => rfl) (by decide) (by decide) (by show 6 * 8 ≤ 536870912; omega) (Nat.le_of_ble_eq_true rfl) (Nat.le_of_ble_eq_true rfl) dX5_init_97 (32, 0) (by simp; exact fun z => absurd (hPn _ z) (by simp)) (fun q12 H hY hS => ?_)
  refine y_putF (C := RX5) (T := TX5) (N := 25) (ci := 5) (ty := .array .long) (v := .ref q12) (fs := [.int 0, .ref q1, .ref q2, .ref q3, .ref q4, .ref q5, .ref q6, .ref q7, .ref q8, .ref q9, .ref q10, .ref q11, .null, .null, .null, .null, .null, .null, .null, .null, .int 0, .null, .null, .null, .null]) hx hb hts iw_X5_init_X5 tyX5 tyX5_ok nmX5 hown hK hY hS (20, 0) (List.mem_append_left _ (List.mem_append_left _ (List.mem_append_left _ (List.mem_append_left _ (List.mem_append_left _ (List.mem_append_left _ (List.mem_append_left _ (List.mem_append_left _ (List.mem_append_left _ (List.mem_append_left _ (List.mem_append_left _ (List.mem_append_left _ hi0)))))))))))) (by simp [uA, h0e]) (by simp [uG, hg0]) rfl 12 (by decide) (hts (.fieldLink RX5 45 "PageOwnersModel" "value" "[J") (by decide +kernel)) (fun _ h9 => h9) rfl hin rfl (by decide +kernel) rfl rfl (Nat.le_of_ble_eq_true rfl) dX5_init_99 (fun H locs hY hS => ?_)
  refine lv_aload_n hx hb dX5_init_102 rfl (lv_at hl 0 rfl) ?_
  refine lv_bipush (v := 6) hx hb dX5_init_103 (by decide) ?_
  refine y_newa (atype := .int) (n := 6) (ty := .int) (N' := 6) (a0 := (6, .inl (fun _ => 0))) hx hb (hts (.arrayClass .int) (by decide +kernel)) rfl hK hY hS hA 0 rfl (ra_p (Or.inl rfl)) (fun _ => rfl) (by decide) (by decide) (by show 6 * 4 ≤ 536870912; omega) (Nat.le_of_ble_eq_true rfl) (Nat.le_of_ble_eq_true rfl) dX5_init_105 (33, 0) (by simp; exact fun z => absurd (hPn _ z) (by simp)) (fun q13 H hY hS => ?_)
  refine y_putF (C := RX5) (T := TX5) (N := 25) (ci := 5) (ty := .array .int) (v := .ref q13) (fs := [.int 0, .ref q1, .ref q2, .ref q3, .ref q4, .ref q5, .ref q6, .ref q7, .ref q8, .ref q9, .ref q10, .ref q11, .ref q12, .null, .null, .null, .null, .null, .null, .null, .int 0, .null, .null, .null, .null]) hx hb hts iw_X5_init_X5 tyX5 tyX5_ok nmX5 hown hK hY hS (20, 0) (List.mem_append_left _ (List.mem_append_left _ (List.mem_append_left _ (List.mem_append_left _ (List.mem_append_left _ (List.mem_append_left _ (List.mem_append_left _ (List.mem_append_left _ (List.mem_append_left _ (List.mem_append_left _ (List.mem_append_left _ (List.mem_append_left _ (List.mem_append_left _ hi0))))))))))))) (by simp [uA, h0e]) (by simp [uG, hg0]) rfl 13 (by decide) (hts (.fieldLink RX5 48 "PageOwnersModel" "answers" "[I") (by decide +kernel)) (fun _ h9 => h9) rfl hin rfl (by decide +kernel) rfl rfl (Nat.le_of_ble_eq_true rfl) dX5_init_107 (fun H locs hY hS => ?_)
  refine lv_aload_n hx hb dX5_init_110 rfl (lv_at hl 0 rfl) ?_
  refine lv_bipush (v := 6) hx hb dX5_init_111 (by decide) ?_
  refine y_newa (atype := .boolean) (n := 6) (ty := .boolean) (N' := 6) (a0 := (6, .inl (fun _ => 0))) hx hb (hts (.arrayClass .boolean) (by decide +kernel)) rfl hK hY hS hA 2 rfl (ra_p (Or.inr (Or.inr rfl))) (fun _ => rfl) (by decide) (by decide) (by show 6 * 1 ≤ 536870912; omega) (Nat.le_of_ble_eq_true rfl) (Nat.le_of_ble_eq_true rfl) dX5_init_113 (34, 0) (by simp; exact fun z => absurd (hPn _ z) (by simp)) (fun q14 H hY hS => ?_)
  refine y_putF (C := RX5) (T := TX5) (N := 25) (ci := 5) (ty := .array .boolean) (v := .ref q14) (fs := [.int 0, .ref q1, .ref q2, .ref q3, .ref q4, .ref q5, .ref q6, .ref q7, .ref q8, .ref q9, .ref q10, .ref q11, .ref q12, .ref q13, .null, .null, .null, .null, .null, .null, .int 0, .null, .null, .null, .null]) hx hb hts iw_X5_init_X5 tyX5 tyX5_ok nmX5 hown hK hY hS (20, 0) (List.mem_append_left _ (List.mem_append_left _ (List.mem_append_left _ (List.mem_append_left _ (List.mem_append_left _ (List.mem_append_left _ (List.mem_append_left _ (List.mem_append_left _ (List.mem_append_left _ (List.mem_append_left _ (List.mem_append_left _ (List.mem_append_left _ (List.mem_append_left _ (List.mem_append_left _ hi0)))))))))))))) (by simp [uA, h0e]) (by simp [uG, hg0]) rfl 14 (by decide) (hts (.fieldLink RX5 51 "PageOwnersModel" "wasCalled" "[Z") (by decide +kernel)) (fun _ h9 => h9) rfl hin rfl (by decide +kernel) rfl rfl (Nat.le_of_ble_eq_true rfl) dX5_init_115 (fun H locs hY hS => ?_)
  refine lv_aload_n hx hb dX5_init_118 rfl (lv_at hl 0 rfl) ?_
  refine lv_bipush (v := 6) hx hb dX5_init_119 (by decide) ?_
  refine y_newa (atype := .boolean) (n := 6) (ty := .boolean) (N' := 6) (a0 := (6, .inl (fun _ => 0))) hx hb (hts (.arrayClass .boolean) (by decide +kernel)) rfl hK hY hS hA 2 rfl (ra_p (Or.inr (Or.inr rfl))) (fun _ => rfl) (by decide) (by decide) (by show 6 * 1 ≤ 536870912; omega) (Nat.le_of_ble_eq_true rfl) (Nat.le_of_ble_eq_true rfl) dX5_init_121 (35, 0) (by simp; exact fun z => absurd (hPn _ z) (by simp)) (fun q15 H hY hS => ?_)
  refine y_putF (C := RX5) (T := TX5) (N := 25) (ci := 5) (ty := .array .boolean) (v := .ref q15) (fs := [.int 0, .ref q1, .ref q2, .ref q3, .ref q4, .ref q5, .ref q6, .ref q7, .ref q8, .ref q9, .ref q10, .ref q11, .ref q12, .ref q13, .ref q14, .null, .null, .null, .null, .null, .int 0, .null, .null, .null, .null]) hx hb hts iw_X5_init_X5 tyX5 tyX5_ok nmX5 hown hK hY hS (20, 0) (List.mem_append_left _ (List.mem_append_left _ (List.mem_append_left _ (List.mem_append_left _ (List.mem_append_left _ (List.mem_append_left _ (List.mem_append_left _ (List.mem_append_left _ (List.mem_append_left _ (List.mem_append_left _ (List.mem_append_left _ (List.mem_append_left _ (List.mem_append_left _ (List.mem_append_left _ (List.mem_append_left _ hi0))))))))))))))) (by simp [uA, h0e]) (by simp [uG, hg0]) rfl 15 (by decide) (hts (.fieldLink RX5 54 "PageOwnersModel" "hadOne" "[Z") (by decide +kernel)) (fun _ h9 => h9) rfl hin rfl (by decide +kernel) rfl rfl (Nat.le_of_ble_eq_true rfl) dX5_init_123 (fun H locs hY hS => ?_)
  refine lv_aload_n hx hb dX5_init_126 rfl (lv_at hl 0 rfl) ?_
  refine lv_bipush (v := 6) hx hb dX5_init_127 (by decide) ?_
  refine y_newa (atype := .int) (n := 6) (ty := .int) (N' := 6) (a0 := (6, .inl (fun _ => 0))) hx hb (hts (.arrayClass .int) (by decide +kernel)) rfl hK hY hS hA 0 rfl (ra_p (Or.inl rfl)) (fun _ => rfl) (by decide) (by decide) (by show 6 * 4 ≤ 536870912; omega) (Nat.le_of_ble_eq_true rfl) (Nat.le_of_ble_eq_true rfl) dX5_init_129 (36, 0) (by simp; exact fun z => absurd (hPn _ z) (by simp)) (fun q16 H hY hS => ?_)
  refine y_putF (C := RX5) (T := TX5) (N := 25) (ci := 5) (ty := .array .int) (v := .ref q16) (fs := [.int 0, .ref q1, .ref q2, .ref q3, .ref q4, .ref q5, .ref q6, .ref q7, .ref q8, .ref q9, .ref q10, .ref q11, .ref q12, .ref q13, .ref q14, .ref q15, .null, .null, .null, .null, .int 0, .null, .null, .null, .null]) hx hb hts iw_X5_init_X5 tyX5 tyX5_ok nmX5 hown hK hY hS (20, 0) (List.mem_append_left _ (List.mem_append_left _ (List.mem_append_left _ (List.mem_append_left _ (List.mem_append_left _ (List.mem_append_left _ (List.mem_append_left _ (List.mem_append_left _ (List.mem_append_left _ (List.mem_append_left _ (List.mem_append_left _ (List.mem_append_left _ (List.mem_append_left _ (List.mem_append_left _ (List.mem_append_left _ (List.mem_append_left _ hi0)))))))))))))))) (by simp [uA, h0e]) (by simp [uG, hg0]) rfl 16 (by decide) (hts (.fieldLink RX5 57 "PageOwnersModel" "done" "[I") (by decide +kernel)) (fun _ h9 => h9) rfl hin rfl (by decide +kernel) rfl rfl (Nat.le_of_ble_eq_true rfl) dX5_init_131 (fun H locs hY hS => ?_)
  refine lv_aload_n hx hb dX5_init_134 rfl (lv_at hl 0 rfl) ?_
  refine lv_bipush (v := 6) hx hb dX5_init_135 (by decide) ?_
  refine y_newa (atype := .long) (n := 6) (ty := .long) (N' := 6) (a0 := (6, .inr (.inl (fun _ => 0)))) hx hb (hts (.arrayClass .long) (by decide +kernel)) rfl hK hY hS hA 1 rfl (ra_p (Or.inr (Or.inl rfl))) (fun _ => rfl) (by decide) (by decide) (by show 6 * 8 ≤ 536870912; omega) (Nat.le_of_ble_eq_true rfl) (Nat.le_of_ble_eq_true rfl) dX5_init_137 (37, 0) (by simp; exact fun z => absurd (hPn _ z) (by simp)) (fun q17 H hY hS => ?_)
  refine y_putF (C := RX5) (T := TX5) (N := 25) (ci := 5) (ty := .array .long) (v := .ref q17) (fs := [.int 0, .ref q1, .ref q2, .ref q3, .ref q4, .ref q5, .ref q6, .ref q7, .ref q8, .ref q9, .ref q10, .ref q11, .ref q12, .ref q13, .ref q14, .ref q15, .ref q16, .null, .null, .null, .int 0, .null, .null, .null, .null]) hx hb hts iw_X5_init_X5 tyX5 tyX5_ok nmX5 hown hK hY hS (20, 0) (List.mem_append_left _ (List.mem_append_left _ (List.mem_append_left _ (List.mem_append_left _ (List.mem_append_left _ (List.mem_append_left _ (List.mem_append_left _ (List.mem_append_left _ (List.mem_append_left _ (List.mem_append_left _ (List.mem_append_left _ (List.mem_append_left _ (List.mem_append_left _ (List.mem_append_left _ (List.mem_append_left _ (List.mem_append_left _ (List.mem_append_left _ hi0))))))))))))))))) (by simp [uA, h0e]) (by simp [uG, hg0]) rfl 17 (by decide) (hts (.fieldLink RX5 60 "PageOwnersModel" "result" "[J") (by decide +kernel)) (fun _ h9 => h9) rfl hin rfl (by decide +kernel) rfl rfl (Nat.le_of_ble_eq_true rfl) dX5_init_139 (fun H locs hY hS => ?_)
  refine lv_aload_n hx hb dX5_init_142 rfl (lv_at hl 0 rfl) ?_
  refine lv_sipush (v := 1400) hx hb dX5_init_143 (by decide) ?_
  refine y_newa (atype := .int) (n := 1400) (ty := .int) (N' := 1400) (a0 := (1400, .inl (fun _ => 0))) hx hb (hts (.arrayClass .int) (by decide +kernel)) rfl hK hY hS hA 0 rfl (ra_p (Or.inl rfl)) (fun _ => rfl) (by decide) (by decide) (by show 1400 * 4 ≤ 536870912; omega) (Nat.le_of_ble_eq_true rfl) (Nat.le_of_ble_eq_true rfl) dX5_init_146 (38, 0) (by simp; exact fun z => absurd (hPn _ z) (by simp)) (fun q18 H hY hS => ?_)
  refine y_putF (C := RX5) (T := TX5) (N := 25) (ci := 5) (ty := .array .int) (v := .ref q18) (fs := [.int 0, .ref q1, .ref q2, .ref q3, .ref q4, .ref q5, .ref q6, .ref q7, .ref q8, .ref q9, .ref q10, .ref q11, .ref q12, .ref q13, .ref q14, .ref q15, .ref q16, .ref q17, .null, .null, .int 0, .null, .null, .null, .null]) hx hb hts iw_X5_init_X5 tyX5 tyX5_ok nmX5 hown hK hY hS (20, 0) (List.mem_append_left _ (List.mem_append_left _ (List.mem_append_left _ (List.mem_append_left _ (List.mem_append_left _ (List.mem_append_left _ (List.mem_append_left _ (List.mem_append_left _ (List.mem_append_left _ (List.mem_append_left _ (List.mem_append_left _ (List.mem_append_left _ (List.mem_append_left _ (List.mem_append_left _ (List.mem_append_left _ (List.mem_append_left _ (List.mem_append_left _ (List.mem_append_left _ hi0)))))))))))))))))) (by simp [uA, h0e]) (by simp [uG, hg0]) rfl 18 (by decide) (hts (.fieldLink RX5 63 "PageOwnersModel" "letters" "[I") (by decide +kernel)) (fun _ h9 => h9) rfl hin rfl (by decide +kernel) rfl rfl (Nat.le_of_ble_eq_true rfl) dX5_init_148 (fun H locs hY hS => ?_)
  refine lv_aload_n hx hb dX5_init_151 rfl (lv_at hl 0 rfl) ?_
  refine lv_sipush (v := 800) hx hb dX5_init_152 (by decide) ?_
  refine y_newa (atype := .long) (n := 800) (ty := .long) (N' := 800) (a0 := (800, .inr (.inl (fun _ => 0)))) hx hb (hts (.arrayClass .long) (by decide +kernel)) rfl hK hY hS hA 1 rfl (ra_p (Or.inr (Or.inl rfl))) (fun _ => rfl) (by decide) (by decide) (by show 800 * 8 ≤ 536870912; omega) (Nat.le_of_ble_eq_true rfl) (Nat.le_of_ble_eq_true rfl) dX5_init_155 (39, 0) (by simp; exact fun z => absurd (hPn _ z) (by simp)) (fun q19 H hY hS => ?_)
  refine y_putF (C := RX5) (T := TX5) (N := 25) (ci := 5) (ty := .array .long) (v := .ref q19) (fs := [.int 0, .ref q1, .ref q2, .ref q3, .ref q4, .ref q5, .ref q6, .ref q7, .ref q8, .ref q9, .ref q10, .ref q11, .ref q12, .ref q13, .ref q14, .ref q15, .ref q16, .ref q17, .ref q18, .null, .int 0, .null, .null, .null, .null]) hx hb hts iw_X5_init_X5 tyX5 tyX5_ok nmX5 hown hK hY hS (20, 0) (List.mem_append_left _ (List.mem_append_left _ (List.mem_append_left _ (List.mem_append_left _ (List.mem_append_left _ (List.mem_append_left _ (List.mem_append_left _ (List.mem_append_left _ (List.mem_append_left _ (List.mem_append_left _ (List.mem_append_left _ (List.mem_append_left _ (List.mem_append_left _ (List.mem_append_left _ (List.mem_append_left _ (List.mem_append_left _ (List.mem_append_left _ (List.mem_append_left _ (List.mem_append_left _ hi0))))))))))))))))))) (by simp [uA, h0e]) (by simp [uG, hg0]) rfl 19 (by decide) (hts (.fieldLink RX5 66 "PageOwnersModel" "letterWords" "[J") (by decide +kernel)) (fun _ h9 => h9) rfl hin rfl (by decide +kernel) rfl rfl (Nat.le_of_ble_eq_true rfl) dX5_init_157 (fun H locs hY hS => ?_)
  refine lv_aload_n hx hb dX5_init_160 rfl (lv_at hl 0 rfl) ?_
  refine lv_bipush (v := 8) hx hb dX5_init_161 (by decide) ?_
  refine y_newa (atype := .int) (n := 8) (ty := .int) (N' := 8) (a0 := (8, .inl (fun _ => 0))) hx hb (hts (.arrayClass .int) (by decide +kernel)) rfl hK hY hS hA 0 rfl (ra_p (Or.inl rfl)) (fun _ => rfl) (by decide) (by decide) (by show 8 * 4 ≤ 536870912; omega) (Nat.le_of_ble_eq_true rfl) (Nat.le_of_ble_eq_true rfl) dX5_init_163 (41, 0) (by simp; exact fun z => absurd (hPn _ z) (by simp)) (fun q21 H hY hS => ?_)
  refine y_putF (C := RX5) (T := TX5) (N := 25) (ci := 5) (ty := .array .int) (v := .ref q21) (fs := [.int 0, .ref q1, .ref q2, .ref q3, .ref q4, .ref q5, .ref q6, .ref q7, .ref q8, .ref q9, .ref q10, .ref q11, .ref q12, .ref q13, .ref q14, .ref q15, .ref q16, .ref q17, .ref q18, .ref q19, .int 0, .null, .null, .null, .null]) hx hb hts iw_X5_init_X5 tyX5 tyX5_ok nmX5 hown hK hY hS (20, 0) (List.mem_append_left _ (List.mem_append_left _ (List.mem_append_left _ (List.mem_append_left _ (List.mem_append_left _ (List.mem_append_left _ (List.mem_append_left _ (List.mem_append_left _ (List.mem_append_left _ (List.mem_append_left _ (List.mem_append_left _ (List.mem_append_left _ (List.mem_append_left _ (List.mem_append_left _ (List.mem_append_left _ (List.mem_append_left _ (List.mem_append_left _ (List.mem_append_left _ (List.mem_append_left _ (List.mem_append_left _ hi0)))))))))))))))))))) (by simp [uA, h0e]) (by simp [uG, hg0]) rfl 21 (by decide) (hts (.fieldLink RX5 69 "PageOwnersModel" "counts" "[I") (by decide +kernel)) (fun _ h9 => h9) rfl hin rfl (by decide +kernel) rfl rfl (Nat.le_of_ble_eq_true rfl) dX5_init_165 (fun H locs hY hS => ?_)
  refine lv_aload_n hx hb dX5_init_168 rfl (lv_at hl 0 rfl) ?_
  refine lv_bipush (v := 7) hx hb dX5_init_169 (by decide) ?_
  refine y_newa (atype := .int) (n := 7) (ty := .int) (N' := 7) (a0 := (7, .inl (fun _ => 0))) hx hb (hts (.arrayClass .int) (by decide +kernel)) rfl hK hY hS hA 0 rfl (ra_p (Or.inl rfl)) (fun _ => rfl) (by decide) (by decide) (by show 7 * 4 ≤ 536870912; omega) (Nat.le_of_ble_eq_true rfl) (Nat.le_of_ble_eq_true rfl) dX5_init_171 (42, 0) (by simp; exact fun z => absurd (hPn _ z) (by simp)) (fun q22 H hY hS => ?_)
  refine y_putF (C := RX5) (T := TX5) (N := 25) (ci := 5) (ty := .array .int) (v := .ref q22) (fs := [.int 0, .ref q1, .ref q2, .ref q3, .ref q4, .ref q5, .ref q6, .ref q7, .ref q8, .ref q9, .ref q10, .ref q11, .ref q12, .ref q13, .ref q14, .ref q15, .ref q16, .ref q17, .ref q18, .ref q19, .int 0, .ref q21, .null, .null, .null]) hx hb hts iw_X5_init_X5 tyX5 tyX5_ok nmX5 hown hK hY hS (20, 0) (List.mem_append_left _ (List.mem_append_left _ (List.mem_append_left _ (List.mem_append_left _ (List.mem_append_left _ (List.mem_append_left _ (List.mem_append_left _ (List.mem_append_left _ (List.mem_append_left _ (List.mem_append_left _ (List.mem_append_left _ (List.mem_append_left _ (List.mem_append_left _ (List.mem_append_left _ (List.mem_append_left _ (List.mem_append_left _ (List.mem_append_left _ (List.mem_append_left _ (List.mem_append_left _ (List.mem_append_left _ (List.mem_append_left _ hi0))))))))))))))))))))) (by simp [uA, h0e]) (by simp [uG, hg0]) rfl 22 (by decide) (hts (.fieldLink RX5 72 "PageOwnersModel" "own" "[I") (by decide +kernel)) (fun _ h9 => h9) rfl hin rfl (by decide +kernel) rfl rfl (Nat.le_of_ble_eq_true rfl) dX5_init_173 (fun H locs hY hS => ?_)
  refine lv_aload_n hx hb dX5_init_176 rfl (lv_at hl 0 rfl) ?_
  refine lv_iconst (v := 4) hx hb dX5_init_177 (by decide) ?_
  refine y_newa (atype := .long) (n := 4) (ty := .long) (N' := 4) (a0 := (4, .inr (.inl (fun _ => 0)))) hx hb (hts (.arrayClass .long) (by decide +kernel)) rfl hK hY hS hA 1 rfl (ra_p (Or.inr (Or.inl rfl))) (fun _ => rfl) (by decide) (by decide) (by show 4 * 8 ≤ 536870912; omega) (Nat.le_of_ble_eq_true rfl) (Nat.le_of_ble_eq_true rfl) dX5_init_178 (43, 0) (by simp; exact fun z => absurd (hPn _ z) (by simp)) (fun q23 H hY hS => ?_)
  refine y_putF (C := RX5) (T := TX5) (N := 25) (ci := 5) (ty := .array .long) (v := .ref q23) (fs := [.int 0, .ref q1, .ref q2, .ref q3, .ref q4, .ref q5, .ref q6, .ref q7, .ref q8, .ref q9, .ref q10, .ref q11, .ref q12, .ref q13, .ref q14, .ref q15, .ref q16, .ref q17, .ref q18, .ref q19, .int 0, .ref q21, .ref q22, .null, .null]) hx hb hts iw_X5_init_X5 tyX5 tyX5_ok nmX5 hown hK hY hS (20, 0) (List.mem_append_left _ (List.mem_append_left _ (List.mem_append_left _ (List.mem_append_left _ (List.mem_append_left _ (List.mem_append_left _ (List.mem_append_left _ (List.mem_append_left _ (List.mem_append_left _ (List.mem_append_left _ (List.mem_append_left _ (List.mem_append_left _ (List.mem_append_left _ (List.mem_append_left _ (List.mem_append_left _ (List.mem_append_left _ (List.mem_append_left _ (List.mem_append_left _ (List.mem_append_left _ (List.mem_append_left _ (List.mem_append_left _ (List.mem_append_left _ hi0)))))))))))))))))))))) (by simp [uA, h0e]) (by simp [uG, hg0]) rfl 23 (by decide) (hts (.fieldLink RX5 75 "PageOwnersModel" "ownWords" "[J") (by decide +kernel)) (fun _ h9 => h9) rfl hin rfl (by decide +kernel) rfl rfl (Nat.le_of_ble_eq_true rfl) dX5_init_180 (fun H locs hY hS => ?_)
  refine lv_aload_n hx hb dX5_init_183 rfl (lv_at hl 0 rfl) ?_
  refine lv_bipush (v := 20) hx hb dX5_init_184 (by decide) ?_
  refine y_newa (atype := .int) (n := 20) (ty := .int) (N' := 20) (a0 := (20, .inl (fun _ => 0))) hx hb (hts (.arrayClass .int) (by decide +kernel)) rfl hK hY hS hA 0 rfl (ra_p (Or.inl rfl)) (fun _ => rfl) (by decide) (by decide) (by show 20 * 4 ≤ 536870912; omega) (Nat.le_of_ble_eq_true rfl) (Nat.le_of_ble_eq_true rfl) dX5_init_186 (44, 0) (by simp; exact fun z => absurd (hPn _ z) (by simp)) (fun q24 H hY hS => ?_)
  refine y_putF (C := RX5) (T := TX5) (N := 25) (ci := 5) (ty := .array .int) (v := .ref q24) (fs := [.int 0, .ref q1, .ref q2, .ref q3, .ref q4, .ref q5, .ref q6, .ref q7, .ref q8, .ref q9, .ref q10, .ref q11, .ref q12, .ref q13, .ref q14, .ref q15, .ref q16, .ref q17, .ref q18, .ref q19, .int 0, .ref q21, .ref q22, .ref q23, .null]) hx hb hts iw_X5_init_X5 tyX5 tyX5_ok nmX5 hown hK hY hS (20, 0) (List.mem_append_left _ (List.mem_append_left _ (List.mem_append_left _ (List.mem_append_left _ (List.mem_append_left _ (List.mem_append_left _ (List.mem_append_left _ (List.mem_append_left _ (List.mem_append_left _ (List.mem_append_left _ (List.mem_append_left _ (List.mem_append_left _ (List.mem_append_left _ (List.mem_append_left _ (List.mem_append_left _ (List.mem_append_left _ (List.mem_append_left _ (List.mem_append_left _ (List.mem_append_left _ (List.mem_append_left _ (List.mem_append_left _ (List.mem_append_left _ (List.mem_append_left _ hi0))))))))))))))))))))))) (by simp [uA, h0e]) (by simp [uG, hg0]) rfl 24 (by decide) (hts (.fieldLink RX5 78 "PageOwnersModel" "aside" "[I") (by decide +kernel)) (fun _ h9 => h9) rfl hin rfl (by decide +kernel) rfl rfl (Nat.le_of_ble_eq_true rfl) dX5_init_188 (fun H locs hY hS => ?_)
  obtain ⟨ad7, had7⟩ : ∃ z, z = uA (uA (uA (uA (uA (uA (uA (uA (uA (uA (uA (uA (uA (uA (uA (uA (uA (uA (uA (uA (uA (uA (uA (ad) (21, 0) q1) (22, 0) q2) (23, 0) q3) (24, 0) q4) (25, 0) q5) (26, 0) q6) (27, 0) q7) (28, 0) q8) (29, 0) q9) (30, 0) q10) (31, 0) q11) (32, 0) q12) (33, 0) q13) (34, 0) q14) (35, 0) q15) (36, 0) q16) (37, 0) q17) (38, 0) q18) (39, 0) q19) (41, 0) q21) (42, 0) q22) (43, 0) q23) (44, 0) q24 := ⟨_, rfl⟩
  have hag : ∀ i, i ∈ P0 → ad7 i = ad i := fun i hi => by
    have hn : ∀ a, 21 ≤ a → i ≠ (a, 0) := fun a h1 z => absurd (hPn i hi) (by rw [z]; simp; omega)
    rw [had7]
    simp [uA, hn]
  have hY7 : YW D A PA ad7 (fun i => if i.1 < 20 then ctt ad cy σ i else ctt ad7 cy (sgm σ) i) H := by
    rw [← had7] at hY
    refine hY.cong (by rw [← hP0]; simp [PA, PM]) (fun _ _ => rfl) (fun i hi => ?_)
    obtain ⟨a, k⟩ := i
    by_cases h20 : a < 20
    · have hn : ∀ b, 20 ≤ b → (a, k) ≠ (b, 0) := fun b h1 z => by cases z; omega
      rw [← hgg]
      simp [uG, hn, h20]
    · have hm : (a, k) ∈ PM := by
        have : (a, k) ∈ PA := by
          have h1 := hi
          rw [← hP0] at h1
          simpa [PA, PM] using h1
        rcases List.mem_append.mp this with z | z
        · exact absurd (PC_lt z) h20
        · exact z
      simp only [PM, List.mem_cons, List.not_mem_nil, or_false, Prod.mk.injEq] at hm
      simp only [if_neg h20]
      rcases hm with ⟨rfl, rfl⟩ | ⟨rfl, rfl⟩ | ⟨rfl, rfl⟩ | ⟨rfl, rfl⟩ | ⟨rfl, rfl⟩ | ⟨rfl, rfl⟩ | ⟨rfl, rfl⟩ | ⟨rfl, rfl⟩ | ⟨rfl, rfl⟩ | ⟨rfl, rfl⟩ | ⟨rfl, rfl⟩ | ⟨rfl, rfl⟩ | ⟨rfl, rfl⟩ | ⟨rfl, rfl⟩ | ⟨rfl, rfl⟩ | ⟨rfl, rfl⟩ | ⟨rfl, rfl⟩ | ⟨rfl, rfl⟩ | ⟨rfl, rfl⟩ | ⟨rfl, rfl⟩ | ⟨rfl, rfl⟩ | ⟨rfl, rfl⟩ | ⟨rfl, rfl⟩ | ⟨rfl, rfl⟩
      · rw [had7]; simp [uG, ctt, cel, sgm, uA]
      all_goals simp [uG, ctt, cel, sgm]
  have hAd : AdOk PA ad7 := ⟨hY7.1, fun k hk => by
    rcases List.mem_append.mp hk with z | z
    · exact PC_4 z
    · exact (PM_ge z).2, hY7.inj⟩
  have hP : Wo D PA ad7 cy (sgm σ) H := by
    intro n q hq
    simp only [wl, List.getElem?_map] at hq
    cases hx : PA[n]? with
    | none => rw [hx] at hq; cases hq
    | some i =>
      rw [hx] at hq
      cases hq
      have h1 : va_at D vwCl (ad7 i, if i.1 < 20 then ctt ad cy σ i else ctt ad7 cy (sgm σ) i) H := hY7.2.1 n _ (by simp [wl, hx])
      by_cases h20 : i.1 < 20
      · rw [if_pos h20] at h1
        have hm : i ∈ PC := by
          rcases List.mem_append.mp (List.mem_of_getElem? hx) with z | z
          · exact z
          · exact absurd (PM_ge z).1 (by omega)
        have hagC : ∀ j, j ∈ PC → ad7 j = ad j := fun j hj => hag j (by rw [← hP0]; exact List.mem_append_left _ hj)
        show va_at D vwCl (ad7 i, ctt ad7 cy (sgm σ) i) H
        rw [ctt_m h20]
        rw [hagC i hm] at h1
        exact ctt_adC hagC hm hr h1
      · rw [if_neg h20] at h1
        exact h1
  refine lv_aload_n hx hb dX5_init_191 rfl (lv_at hl 0 rfl) ?_
  refine lv_iconst (v := 4) hx hb dX5_init_192 (by decide) ?_
  have had : ad7 (20, 0) = h0 := (hag _ hi0).trans h0e
  have hrec := x_recv (q := (RX5, TX5, 25)) (ci := 5) hK hP (a := 20) (k := 0) (in1m InM_PA (by decide) (by decide)) rfl rfl
  rw [had] at hrec
  have hM := c_X5_begin l (D := D) (cy := cy) hAd InM_PA (sgm σ) 4 Q h
  rw [had] at hM
  refine va_calli (va_runV (As := [.int 4]) (rest := []) ⟨hx, hb, hml, hown, hts⟩ hM (cwV 1 hts gX5_init_X5_begin rfl rfl rfl (by decide +kernel) ⟨Nat.le_of_ble_eq_true rfl, Nat.le_of_ble_eq_true rfl⟩) ⟨x_blind _, hrec, x_pre hK hP _⟩ rfl rfl hl.1 rfl (lv_room (Nat.le_of_ble_eq_true rfl)) dX5_init_193 ⟨Nat.le_of_ble_eq_true rfl, Nat.le_of_ble_eq_true rfl⟩) hS (fun q _ hz => by obtain ⟨i, hi, rfl⟩ := hz; exact hY7.inA hi) (fun q hz => by obtain ⟨i, hi, rfl⟩ := hz; exact hY7.inA hi) (fun rr u t H1 locs ht hvm hw hB hz1 hk1 hS => ?_)
  refine lv_pop hx hb dX5_init_196 rfl ?_
  refine W.widen (k := 23) (n := 3691) (by decide) (by decide) ?_
  refine W.vret hx hb hr0 (fun t2 ht2 hW => ⟨⟨(ad7, u, rr), rfl, ⟨hag, hw⟩, hAd, fun i hi => hY7.inA hi, ?_⟩, hS.F ht2⟩) hS.2.2 dX5_init_197
  have h9 := hB.1
  rw [ht] at h9
  rw [ht2]
  exact h9

