theorem iw_X0_take_X0 : ∀ w ∈ wsX00, w ∈ wsX0_take := fun _ h => List.mem_cons_of_mem _ (List.mem_append_right _ h)
def wp_X0_take (σ : Sg) (k0 : Nat) (x1 : Int32) (x2 : Int32) (x3 : Int32) (x4 : Int64) (Q : Sg → Prop) : Prop := (∀ σ1, σ1 = sI σ 6 k0 0 1 → (∀ σ3, σ3 = sI σ1 6 k0 2 x1 → (∀ σ5, σ5 = sI σ3 6 k0 3 x2 → ((x3 = 0 ∨ x3 = 1) ∧ (∀ σ7, σ7 = sI σ5 6 k0 4 x3 → (∀ σ10, σ10 = sL σ7 6 k0 5 x4 → (∀ σ12, σ12 = sI σ10 6 k0 6 0 → (∀ σ14, σ14 = sI σ12 6 k0 7 0 → Q σ14))))))))
abbrev rm_X0_take : Room := { frames := 0, cells := 0, slots := 0, locals := 0 }
set_option maxHeartbeats 4000000 in
set_option maxRecDepth 100000 in
theorem c_X0_take (l : Launch) {D : va_G} {P : List (Nat × Nat)} {ad : Nat × Nat → Nat} {cy : Nat → ClassId} (hAd : AdOk P ad) (hC : InC P) (σ : Sg) (k0 : Nat) (hk0 : k0 < 6) (x1 : Int32) (x2 : Int32) (x3 : Int32) (x4 : Int64) (Q : Sg → Prop) (h : wp_X0_take σ k0 x1 x2 x3 x4 Q) : Met l yX0_take wsX0_take rm_X0_take (xPc D P ad cy σ [.ref (ad (6, k0)), .int x1, .int x2, .int x3, .long x4]) (va_Qv Q (xB D P ad cy) (Aof P ad)) 0 0 (Aof P ad) := by
  refine Met.ofW (cc := cX0_take) (maxL := 6) (ret := none) (by decide +kernel) rfl ?_
  intro p e s m args below meth c s₁ B hml hv
  obtain ⟨rfl, hP, hK⟩ := hv
  have hx := B.exec
  have hb := B.bytes
  have hr := B.returns
  have hts := atoms_spec (ws := wsX0_take) B.pre
  have hown : s.vm.findClass RX0 = some m.cls := findClass_of_methodNamed B.named
  have hlocks := B.notSynchronized
  have hS : va_S (Aof P ad) s.heap s.heap [] := va_S.rf
  have hl := lv_entry ([.ref (ad (6, k0)), .int x1, .int x2, .int x3, .long x4] : List Value) (n := 6) (Nat.le_of_ble_eq_true rfl)
  rw [lg_entry_eq]
  generalize (lg_sl ([.ref (ad (6, k0)), .int x1, .int x2, .int x3, .long x4] : List Value) ++ List.replicate (6 - (lg_sl ([.ref (ad (6, k0)), .int x1, .int x2, .int x3, .long x4] : List Value)).length) Slot.unset).toArray = ls at hl ⊢
  have hl : lv_has ls 6 [(0, .ref (ad (6, k0))), (1, .int x1), (2, .int x2), (3, .int x3), (4, .long x4)] := hl
  unfold wp_X0_take at h
  refine lv_aload_n hx hb dX0_take_0 rfl (lv_at hl 0 rfl) ?_
  refine lv_iconst (v := 1) hx hb dX0_take_1 (by decide) ?_
  refine x_puti (C := RX0) (T := TX0) (N := 10) (ci := 0) (a := 6) (k := k0) (v := 1) (ty := .boolean) hx hb hts iw_X0_take_X0 tyX0 tyX0_ok nmX0 hown hK hP hAd hS (in6 hC (a := 6) (by decide) hk0) rfl rfl 0 (by decide) (hts (.fieldLink RX0 15 "PageOwners$Hand" "everHadOne" "Z") (by decide +kernel)) (fun _ h9 => h9) rfl (by decide +kernel) rfl rfl (Nat.le_of_ble_eq_true rfl) rfl dX0_take_2 (fun H locs hP hS => ?_)
  obtain ⟨σ1, e2⟩ : ∃ z, z = sI σ 6 k0 0 1 := ⟨_, rfl⟩
  rw [← e2] at hP
  have h := h σ1 e2
  refine lv_aload_n hx hb dX0_take_5 rfl (lv_at hl 0 rfl) ?_
  refine lv_iload_n hx hb dX0_take_6 rfl (lv_at hl 1 rfl) ?_
  refine x_puti (C := RX0) (T := TX0) (N := 10) (ci := 0) (a := 6) (k := k0) (v := x1) (ty := .int) hx hb hts iw_X0_take_X0 tyX0 tyX0_ok nmX0 hown hK hP hAd hS (in6 hC (a := 6) (by decide) hk0) rfl rfl 2 (by decide) (hts (.fieldLink RX0 30 "PageOwners$Hand" "page" "I") (by decide +kernel)) (fun _ h9 => h9) rfl (by decide +kernel) rfl rfl (Nat.le_of_ble_eq_true rfl) rfl dX0_take_7 (fun H locs hP hS => ?_)
  obtain ⟨σ3, e4⟩ : ∃ z, z = sI σ1 6 k0 2 x1 := ⟨_, rfl⟩
  rw [← e4] at hP
  have h := h σ3 e4
  refine lv_aload_n hx hb dX0_take_10 rfl (lv_at hl 0 rfl) ?_
  refine lv_iload_n hx hb dX0_take_11 rfl (lv_at hl 2 rfl) ?_
  refine x_puti (C := RX0) (T := TX0) (N := 10) (ci := 0) (a := 6) (k := k0) (v := x2) (ty := .int) hx hb hts iw_X0_take_X0 tyX0 tyX0_ok nmX0 hown hK hP hAd hS (in6 hC (a := 6) (by decide) hk0) rfl rfl 3 (by decide) (hts (.fieldLink RX0 33 "PageOwners$Hand" "word" "I") (by decide +kernel)) (fun _ h9 => h9) rfl (by decide +kernel) rfl rfl (Nat.le_of_ble_eq_true rfl) rfl dX0_take_12 (fun H locs hP hS => ?_)
  obtain ⟨σ5, e6⟩ : ∃ z, z = sI σ3 6 k0 3 x2 := ⟨_, rfl⟩
  rw [← e6] at hP
  have h := h σ5 e6
  refine lv_aload_n hx hb dX0_take_15 rfl (lv_at hl 0 rfl) ?_
  refine lv_iload_n hx hb dX0_take_16 rfl (lv_at hl 3 rfl) ?_
  have z9 := h.1
  have h := h.2
  refine x_puti (C := RX0) (T := TX0) (N := 10) (ci := 0) (a := 6) (k := k0) (v := x3) (ty := .boolean) hx hb hts iw_X0_take_X0 tyX0 tyX0_ok nmX0 hown hK hP hAd hS (in6 hC (a := 6) (by decide) hk0) rfl rfl 4 (by decide) (hts (.fieldLink RX0 36 "PageOwners$Hand" "isWrite" "Z") (by decide +kernel)) (fun _ h9 => h9) rfl (by decide +kernel) (zn z9) (zf z9) (Nat.le_of_ble_eq_true rfl) rfl dX0_take_17 (fun H locs hP hS => ?_)
  obtain ⟨σ7, e8⟩ : ∃ z, z = sI σ5 6 k0 4 x3 := ⟨_, rfl⟩
  rw [← e8] at hP
  have h := h σ7 e8
  refine lv_aload_n hx hb dX0_take_20 rfl (lv_at hl 0 rfl) ?_
  refine lv_lload hx hb dX0_take_21 (lv_at hl 4 rfl) ?_
  refine x_putl (C := RX0) (T := TX0) (N := 10) (ci := 0) (a := 6) (k := k0) (v := x4) (ty := .long) hx hb hts iw_X0_take_X0 tyX0 tyX0_ok nmX0 hown hK hP hAd hS (in6 hC (a := 6) (by decide) hk0) rfl rfl 5 (by decide) (hts (.fieldLink RX0 39 "PageOwners$Hand" "value" "J") (by decide +kernel)) (fun _ h9 => h9) rfl (by decide +kernel) rfl rfl (Nat.le_of_ble_eq_true rfl) rfl dX0_take_23 (fun H locs hP hS => ?_)
  obtain ⟨σ10, e11⟩ : ∃ z, z = sL σ7 6 k0 5 x4 := ⟨_, rfl⟩
  rw [← e11] at hP
  have h := h σ10 e11
  refine lv_aload_n hx hb dX0_take_26 rfl (lv_at hl 0 rfl) ?_
  refine lv_iconst (v := 0) hx hb dX0_take_27 (by decide) ?_
  refine x_puti (C := RX0) (T := TX0) (N := 10) (ci := 0) (a := 6) (k := k0) (v := 0) (ty := .int) hx hb hts iw_X0_take_X0 tyX0 tyX0_ok nmX0 hown hK hP hAd hS (in6 hC (a := 6) (by decide) hk0) rfl rfl 6 (by decide) (hts (.fieldLink RX0 42 "PageOwners$Hand" "answersDue" "I") (by decide +kernel)) (fun _ h9 => h9) rfl (by decide +kernel) rfl rfl (Nat.le_of_ble_eq_true rfl) rfl dX0_take_28 (fun H locs hP hS => ?_)
  obtain ⟨σ12, e13⟩ : ∃ z, z = sI σ10 6 k0 6 0 := ⟨_, rfl⟩
  rw [← e13] at hP
  have h := h σ12 e13
  refine lv_aload_n hx hb dX0_take_31 rfl (lv_at hl 0 rfl) ?_
  refine lv_iconst (v := 0) hx hb dX0_take_32 (by decide) ?_
  refine x_puti (C := RX0) (T := TX0) (N := 10) (ci := 0) (a := 6) (k := k0) (v := 0) (ty := .boolean) hx hb hts iw_X0_take_X0 tyX0 tyX0_ok nmX0 hown hK hP hAd hS (in6 hC (a := 6) (by decide) hk0) rfl rfl 7 (by decide) (hts (.fieldLink RX0 45 "PageOwners$Hand" "wasCalled" "Z") (by decide +kernel)) (fun _ h9 => h9) rfl (by decide +kernel) rfl rfl (Nat.le_of_ble_eq_true rfl) rfl dX0_take_33 (fun H locs hP hS => ?_)
  obtain ⟨σ14, e15⟩ : ∃ z, z = sI σ12 6 k0 7 0 := ⟨_, rfl⟩
  rw [← e15] at hP
  have h := h σ14 e15
  exact W.vret hx hb hr (fun t ht hW => ⟨⟨σ14, rfl, h, by rw [ht]; exact hP, va_K.moved hW.alike hK⟩, hS.F ht⟩) hS.2.2 dX0_take_36
theorem iw_X0_awaits_X0 : ∀ w ∈ wsX00, w ∈ wsX0_awaits := fun _ h => List.mem_cons_of_mem _ (List.mem_append_right _ h)
def wp_X0_awaits (σ : Sg) (k0 : Nat) (x1 : Int32) (x2 : Int32) (Q : Sg → Int32 → Prop) : Prop := (((σ.1 6 k0 1) = x1 → (((σ.1 6 k0 2) = x2 → (Q σ 1)) ∧ (¬ ((σ.1 6 k0 2) = x2) → (Q σ 0)))) ∧ (¬ ((σ.1 6 k0 1) = x1) → (Q σ 0)))
abbrev rm_X0_awaits : Room := { frames := 0, cells := 0, slots := 0, locals := 0 }
set_option maxHeartbeats 4000000 in
set_option maxRecDepth 100000 in
theorem c_X0_awaits (l : Launch) {D : va_G} {P : List (Nat × Nat)} {ad : Nat × Nat → Nat} {cy : Nat → ClassId} (hAd : AdOk P ad) (hC : InC P) (σ : Sg) (k0 : Nat) (hk0 : k0 < 6) (x1 : Int32) (x2 : Int32) (Q : Sg → Int32 → Prop) (h : wp_X0_awaits σ k0 x1 x2 Q) : Met l yX0_awaits wsX0_awaits rm_X0_awaits (xPc D P ad cy σ [.ref (ad (6, k0)), .int x1, .int x2]) (va_Qi (fun r σ' => Q σ' r) (xB D P ad cy) (Aof P ad)) 0 0 (Aof P ad) := by
  refine Met.ofW (cc := cX0_awaits) (maxL := 3) (ret := (some .boolean)) (by decide +kernel) rfl ?_
  intro p e s m args below meth c s₁ B hml hv
  obtain ⟨rfl, hP, hK⟩ := hv
  have hx := B.exec
  have hb := B.bytes
  have hr := B.returns
  have hts := atoms_spec (ws := wsX0_awaits) B.pre
  have hown : s.vm.findClass RX0 = some m.cls := findClass_of_methodNamed B.named
  have hlocks := B.notSynchronized
  have hS : va_S (Aof P ad) s.heap s.heap [] := va_S.rf
  have hl := lv_entry ([.ref (ad (6, k0)), .int x1, .int x2] : List Value) (n := 3) (Nat.le_of_ble_eq_true rfl)
  rw [lg_entry_eq]
  generalize (lg_sl ([.ref (ad (6, k0)), .int x1, .int x2] : List Value) ++ List.replicate (3 - (lg_sl ([.ref (ad (6, k0)), .int x1, .int x2] : List Value)).length) Slot.unset).toArray = ls at hl ⊢
  have hl : lv_has ls 3 [(0, .ref (ad (6, k0))), (1, .int x1), (2, .int x2)] := hl
  unfold wp_X0_awaits at h
  refine lv_aload_n hx hb dX0_awaits_0 rfl (lv_at hl 0 rfl) ?_
  refine x_get (C := RX0) (T := TX0) (N := 10) (ci := 0) (a := 6) (k := k0) (v := .int (σ.1 6 k0 1)) hx hb hts iw_X0_awaits_X0 hown hK hP (in6 hC (a := 6) (by decide) hk0) rfl rfl 1 (by decide) (hts (.fieldLink RX0 19 "PageOwners$Hand" "waitsFor" "I") (by decide +kernel)) (fun _ h9 => h9) rfl dX0_awaits_1 ?_
  refine lv_iload_n hx hb dX0_awaits_4 rfl (lv_at hl 1 rfl) ?_
  refine lv_icmp_ne (tgt := 20) hx hb dX0_awaits_5 (by decide) (fun c1 => ?_) (fun c1 => ?_)
  · have h := h.2 c1
    refine lv_iconst (v := 0) hx hb dX0_awaits_20 (by decide) ?_
    exact W.zret (v := 0) hx hb hr rfl (fun t ht hW => ⟨⟨0, σ, rfl, h, by rw [ht]; exact hP, va_K.moved hW.alike hK⟩, hS.F ht⟩) hS.2.2 dX0_awaits_21
  · have h := h.1 c1
    refine lv_aload_n hx hb dX0_awaits_8 rfl (lv_at hl 0 rfl) ?_
    refine x_get (C := RX0) (T := TX0) (N := 10) (ci := 0) (a := 6) (k := k0) (v := .int (σ.1 6 k0 2)) hx hb hts iw_X0_awaits_X0 hown hK hP (in6 hC (a := 6) (by decide) hk0) rfl rfl 2 (by decide) (hts (.fieldLink RX0 30 "PageOwners$Hand" "page" "I") (by decide +kernel)) (fun _ h9 => h9) rfl dX0_awaits_9 ?_
    refine lv_iload_n hx hb dX0_awaits_12 rfl (lv_at hl 2 rfl) ?_
    refine lv_icmp_ne (tgt := 20) hx hb dX0_awaits_13 (by decide) (fun c2 => ?_) (fun c2 => ?_)
    · have h := h.2 c2
      refine lv_iconst (v := 0) hx hb dX0_awaits_20 (by decide) ?_
      exact W.zret (v := 0) hx hb hr rfl (fun t ht hW => ⟨⟨0, σ, rfl, h, by rw [ht]; exact hP, va_K.moved hW.alike hK⟩, hS.F ht⟩) hS.2.2 dX0_awaits_21
    · have h := h.1 c2
      refine lv_iconst (v := 1) hx hb dX0_awaits_16 (by decide) ?_
      refine lv_goto (tgt := 21) hx hb dX0_awaits_17 (by decide) ?_
      exact W.zret (v := 1) hx hb hr rfl (fun t ht hW => ⟨⟨1, σ, rfl, h, by rw [ht]; exact hP, va_K.moved hW.alike hK⟩, hS.F ht⟩) hS.2.2 dX0_awaits_21
theorem iw_X0_startAnew_X0 : ∀ w ∈ wsX00, w ∈ wsX0_startAnew := fun _ h => List.mem_cons_of_mem _ (List.mem_append_right _ h)
def wp_X0_startAnew (σ : Sg) (k0 : Nat) (Q : Sg → Prop) : Prop := (wp_X0_take σ k0 0 0 0 0 (fun σ1 => (∀ σ4, σ4 = sI σ1 6 k0 0 0 → (∀ σ6, σ6 = sI σ4 6 k0 1 0 → (∀ σ8, σ8 = sI σ6 6 k0 8 0 → (∀ σ10, σ10 = sL σ8 6 k0 9 0 → Q σ10))))))
abbrev rm_X0_startAnew : Room := { frames := 1, cells := 0, slots := 0, locals := 25 }
set_option maxHeartbeats 4000000 in
set_option maxRecDepth 100000 in
theorem c_X0_startAnew (l : Launch) {D : va_G} {P : List (Nat × Nat)} {ad : Nat × Nat → Nat} {cy : Nat → ClassId} (hAd : AdOk P ad) (hC : InC P) (σ : Sg) (k0 : Nat) (hk0 : k0 < 6) (Q : Sg → Prop) (h : wp_X0_startAnew σ k0 Q) : Met l yX0_startAnew wsX0_startAnew rm_X0_startAnew (xPc D P ad cy σ [.ref (ad (6, k0))]) (va_Qv Q (xB D P ad cy) (Aof P ad)) 0 0 (Aof P ad) := by
  refine Met.ofW (cc := cX0_startAnew) (maxL := 1) (ret := none) (by decide +kernel) rfl ?_
  intro p e s m args below meth c s₁ B hml hv
  obtain ⟨rfl, hP, hK⟩ := hv
  have hx := B.exec
  have hb := B.bytes
  have hr := B.returns
  have hts := atoms_spec (ws := wsX0_startAnew) B.pre
  have hown : s.vm.findClass RX0 = some m.cls := findClass_of_methodNamed B.named
  have hlocks := B.notSynchronized
  have hS : va_S (Aof P ad) s.heap s.heap [] := va_S.rf
  have hl := lv_entry ([.ref (ad (6, k0))] : List Value) (n := 1) (Nat.le_of_ble_eq_true rfl)
  rw [lg_entry_eq]
  generalize (lg_sl ([.ref (ad (6, k0))] : List Value) ++ List.replicate (1 - (lg_sl ([.ref (ad (6, k0))] : List Value)).length) Slot.unset).toArray = ls at hl ⊢
  have hl : lv_has ls 1 [(0, .ref (ad (6, k0)))] := hl
  unfold wp_X0_startAnew at h
  refine lv_aload_n hx hb dX0_startAnew_0 rfl (lv_at hl 0 rfl) ?_
  refine lv_iconst (v := 0) hx hb dX0_startAnew_1 (by decide) ?_
  refine lv_iconst (v := 0) hx hb dX0_startAnew_2 (by decide) ?_
  refine lv_iconst (v := 0) hx hb dX0_startAnew_3 (by decide) ?_
  refine lv_lconst (v := 0) hx hb dX0_startAnew_4 (by decide) ?_
  refine x_cVv (C := RX0) (As := [.int 0, .int 0, .int 0, .long 0]) (rest := []) ⟨hx, hb, hml, hown, hts⟩ hK hP hS (c_X0_take l hAd hC σ k0 hk0 0 0 0 0 _ h) (cwV 4 hts gX0_startAnew_X0_take rfl rfl rfl (by decide +kernel) ⟨Nat.le_of_ble_eq_true rfl, Nat.le_of_ble_eq_true rfl⟩) (x_recv hK hP (in6 hC (a := 6) (by decide) hk0) rfl rfl) rfl hl.1 rfl (Nat.le_of_ble_eq_true rfl) dX0_startAnew_5 ⟨Nat.zero_le _, Nat.zero_le _⟩ (fun σ1 H locs h hP hS => ?_)
  refine lv_aload_n hx hb dX0_startAnew_8 rfl (lv_at hl 0 rfl) ?_
  refine lv_iconst (v := 0) hx hb dX0_startAnew_9 (by decide) ?_
  refine x_puti (C := RX0) (T := TX0) (N := 10) (ci := 0) (a := 6) (k := k0) (v := 0) (ty := .boolean) hx hb hts iw_X0_startAnew_X0 tyX0 tyX0_ok nmX0 hown hK hP hAd hS (in6 hC (a := 6) (by decide) hk0) rfl rfl 0 (by decide) (hts (.fieldLink RX0 15 "PageOwners$Hand" "everHadOne" "Z") (by decide +kernel)) (fun _ h9 => h9) rfl (by decide +kernel) rfl rfl (Nat.le_of_ble_eq_true rfl) rfl dX0_startAnew_10 (fun H locs hP hS => ?_)
  obtain ⟨σ4, e5⟩ : ∃ z, z = sI σ1 6 k0 0 0 := ⟨_, rfl⟩
  rw [← e5] at hP
  have h := h σ4 e5
  refine lv_aload_n hx hb dX0_startAnew_13 rfl (lv_at hl 0 rfl) ?_
  refine lv_iconst (v := 0) hx hb dX0_startAnew_14 (by decide) ?_
  refine x_puti (C := RX0) (T := TX0) (N := 10) (ci := 0) (a := 6) (k := k0) (v := 0) (ty := .int) hx hb hts iw_X0_startAnew_X0 tyX0 tyX0_ok nmX0 hown hK hP hAd hS (in6 hC (a := 6) (by decide) hk0) rfl rfl 1 (by decide) (hts (.fieldLink RX0 19 "PageOwners$Hand" "waitsFor" "I") (by decide +kernel)) (fun _ h9 => h9) rfl (by decide +kernel) rfl rfl (Nat.le_of_ble_eq_true rfl) rfl dX0_startAnew_15 (fun H locs hP hS => ?_)
  obtain ⟨σ6, e7⟩ : ∃ z, z = sI σ4 6 k0 1 0 := ⟨_, rfl⟩
  rw [← e7] at hP
  have h := h σ6 e7
  refine lv_aload_n hx hb dX0_startAnew_18 rfl (lv_at hl 0 rfl) ?_
  refine lv_iconst (v := 0) hx hb dX0_startAnew_19 (by decide) ?_
  refine x_puti (C := RX0) (T := TX0) (N := 10) (ci := 0) (a := 6) (k := k0) (v := 0) (ty := .int) hx hb hts iw_X0_startAnew_X0 tyX0 tyX0_ok nmX0 hown hK hP hAd hS (in6 hC (a := 6) (by decide) hk0) rfl rfl 8 (by decide) (hts (.fieldLink RX0 23 "PageOwners$Hand" "done" "I") (by decide +kernel)) (fun _ h9 => h9) rfl (by decide +kernel) rfl rfl (Nat.le_of_ble_eq_true rfl) rfl dX0_startAnew_20 (fun H locs hP hS => ?_)
  obtain ⟨σ8, e9⟩ : ∃ z, z = sI σ6 6 k0 8 0 := ⟨_, rfl⟩
  rw [← e9] at hP
  have h := h σ8 e9
  refine lv_aload_n hx hb dX0_startAnew_23 rfl (lv_at hl 0 rfl) ?_
  refine lv_lconst (v := 0) hx hb dX0_startAnew_24 (by decide) ?_
  refine x_putl (C := RX0) (T := TX0) (N := 10) (ci := 0) (a := 6) (k := k0) (v := 0) (ty := .long) hx hb hts iw_X0_startAnew_X0 tyX0 tyX0_ok nmX0 hown hK hP hAd hS (in6 hC (a := 6) (by decide) hk0) rfl rfl 9 (by decide) (hts (.fieldLink RX0 26 "PageOwners$Hand" "result" "J") (by decide +kernel)) (fun _ h9 => h9) rfl (by decide +kernel) rfl rfl (Nat.le_of_ble_eq_true rfl) rfl dX0_startAnew_25 (fun H locs hP hS => ?_)
  obtain ⟨σ10, e11⟩ : ∃ z, z = sL σ8 6 k0 9 0 := ⟨_, rfl⟩
  rw [← e11] at hP
  have h := h σ10 e11
  exact W.vret hx hb hr (fun t ht hW => ⟨⟨σ10, rfl, h, by rw [ht]; exact hP, va_K.moved hW.alike hK⟩, hS.F ht⟩) hS.2.2 dX0_startAnew_28
