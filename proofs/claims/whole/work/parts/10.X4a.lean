theorem iw_X4_isNode_X4 : ∀ w ∈ wsX40, w ∈ wsX4_isNode := fun _ h => List.mem_cons_of_mem _ (List.mem_append_right _ h)
def wp_X4_isNode (σ : Sg) (x1 : Int32) (Q : Sg → Int32 → Prop) : Prop := ((x1 < 0 → (Q σ 0)) ∧ (¬ (x1 < 0) → (((σ.1 0 0 3) ≤ x1 → (Q σ 0)) ∧ (¬ ((σ.1 0 0 3) ≤ x1) → (Q σ 1)))))
abbrev rm_X4_isNode : Room := { frames := 0, cells := 0, slots := 0, locals := 0 }
set_option maxHeartbeats 4000000 in
set_option maxRecDepth 100000 in
theorem c_X4_isNode (l : Launch) {D : va_G} {P : List (Nat × Nat)} {ad : Nat × Nat → Nat} {cy : Nat → ClassId} (hAd : AdOk P ad) (hC : InC P) (σ : Sg) (x1 : Int32) (Q : Sg → Int32 → Prop) (h : wp_X4_isNode σ x1 Q) : Met l yX4_isNode wsX4_isNode rm_X4_isNode (xPc D P ad cy σ [.ref (ad (0, 0)), .int x1]) (va_Qi (fun r σ' => Q σ' r) (xB D P ad cy) (Aof P ad)) 0 0 (Aof P ad) := by
  refine Met.ofW (cc := cX4_isNode) (maxL := 2) (ret := (some .boolean)) (by decide +kernel) rfl ?_
  intro p e s m args below meth c s₁ B hml hv
  obtain ⟨rfl, hP, hK⟩ := hv
  have hx := B.exec
  have hb := B.bytes
  have hr := B.returns
  have hts := atoms_spec (ws := wsX4_isNode) B.pre
  have hown : s.vm.findClass RX4 = some m.cls := findClass_of_methodNamed B.named
  have hlocks := B.notSynchronized
  have hS : va_S (Aof P ad) s.heap s.heap [] := va_S.rf
  have hl := lv_entry ([.ref (ad (0, 0)), .int x1] : List Value) (n := 2) (Nat.le_of_ble_eq_true rfl)
  rw [lg_entry_eq]
  generalize (lg_sl ([.ref (ad (0, 0)), .int x1] : List Value) ++ List.replicate (2 - (lg_sl ([.ref (ad (0, 0)), .int x1] : List Value)).length) Slot.unset).toArray = ls at hl ⊢
  have hl : lv_has ls 2 [(0, .ref (ad (0, 0))), (1, .int x1)] := hl
  unfold wp_X4_isNode at h
  refine lv_iload_n hx hb dX4_isNode_0 rfl (lv_at hl 1 rfl) ?_
  refine lv_if_lt (tgt := 16) hx hb dX4_isNode_1 (by decide) (fun c1 => ?_) (fun c1 => ?_)
  · have h := h.1 c1
    refine lv_iconst (v := 0) hx hb dX4_isNode_16 (by decide) ?_
    exact W.zret (v := 0) hx hb hr rfl (fun t ht hW => ⟨⟨0, σ, rfl, h, by rw [ht]; exact hP, va_K.moved hW.alike hK⟩, hS.F ht⟩) hS.2.2 dX4_isNode_17
  · have h := h.2 c1
    refine lv_iload_n hx hb dX4_isNode_4 rfl (lv_at hl 1 rfl) ?_
    refine lv_aload_n hx hb dX4_isNode_5 rfl (lv_at hl 0 rfl) ?_
    refine x_get (C := RX4) (T := TX4) (N := 4) (ci := 4) (a := 0) (k := 0) (v := .int (σ.1 0 0 3)) hx hb hts iw_X4_isNode_X4 hown hK hP (in1 hC (a := 0) (by decide) (by decide)) rfl rfl 3 (by decide) (hts (.fieldLink RX4 141 "PageOwners" "nodes" "I") (by decide +kernel)) (fun _ h9 => h9) rfl dX4_isNode_6 ?_
    refine lv_icmp_ge (tgt := 16) hx hb dX4_isNode_9 (by decide) (fun c2 => ?_) (fun c2 => ?_)
    · have h := h.1 c2
      refine lv_iconst (v := 0) hx hb dX4_isNode_16 (by decide) ?_
      exact W.zret (v := 0) hx hb hr rfl (fun t ht hW => ⟨⟨0, σ, rfl, h, by rw [ht]; exact hP, va_K.moved hW.alike hK⟩, hS.F ht⟩) hS.2.2 dX4_isNode_17
    · have h := h.2 c2
      refine lv_iconst (v := 1) hx hb dX4_isNode_12 (by decide) ?_
      refine lv_goto (tgt := 17) hx hb dX4_isNode_13 (by decide) ?_
      exact W.zret (v := 1) hx hb hr rfl (fun t ht hW => ⟨⟨1, σ, rfl, h, by rw [ht]; exact hP, va_K.moved hW.alike hK⟩, hS.F ht⟩) hS.2.2 dX4_isNode_17
def wp_X4_isPage (σ : Sg) (x1 : Int32) (Q : Sg → Int32 → Prop) : Prop := ((x1 < 0 → (Q σ 0)) ∧ (¬ (x1 < 0) → ((8 ≤ x1 → (Q σ 0)) ∧ (¬ (8 ≤ x1) → (Q σ 1)))))
abbrev rm_X4_isPage : Room := { frames := 0, cells := 0, slots := 0, locals := 0 }
set_option maxHeartbeats 4000000 in
set_option maxRecDepth 100000 in
theorem c_X4_isPage (l : Launch) {D : va_G} {P : List (Nat × Nat)} {ad : Nat × Nat → Nat} {cy : Nat → ClassId} (hAd : AdOk P ad) (hC : InC P) (σ : Sg) (x1 : Int32) (Q : Sg → Int32 → Prop) (h : wp_X4_isPage σ x1 Q) : Met l yX4_isPage wsX4_isPage rm_X4_isPage (xPc D P ad cy σ [.int x1]) (va_Qi (fun r σ' => Q σ' r) (xB D P ad cy) (Aof P ad)) 0 0 (Aof P ad) := by
  refine Met.ofW (cc := cX4_isPage) (maxL := 1) (ret := (some .boolean)) (by decide +kernel) rfl ?_
  intro p e s m args below meth c s₁ B hml hv
  obtain ⟨rfl, hP, hK⟩ := hv
  have hx := B.exec
  have hb := B.bytes
  have hr := B.returns
  have hts := atoms_spec (ws := wsX4_isPage) B.pre
  have hown : s.vm.findClass RX4 = some m.cls := findClass_of_methodNamed B.named
  have hlocks := B.notSynchronized
  have hS : va_S (Aof P ad) s.heap s.heap [] := va_S.rf
  have hl := lv_entry ([.int x1] : List Value) (n := 1) (Nat.le_of_ble_eq_true rfl)
  rw [lg_entry_eq]
  generalize (lg_sl ([.int x1] : List Value) ++ List.replicate (1 - (lg_sl ([.int x1] : List Value)).length) Slot.unset).toArray = ls at hl ⊢
  have hl : lv_has ls 1 [(0, .int x1)] := hl
  unfold wp_X4_isPage at h
  refine lv_iload_n hx hb dX4_isPage_0 rfl (lv_at hl 0 rfl) ?_
  refine lv_if_lt (tgt := 14) hx hb dX4_isPage_1 (by decide) (fun c1 => ?_) (fun c1 => ?_)
  · have h := h.1 c1
    refine lv_iconst (v := 0) hx hb dX4_isPage_14 (by decide) ?_
    exact W.zret (v := 0) hx hb hr rfl (fun t ht hW => ⟨⟨0, σ, rfl, h, by rw [ht]; exact hP, va_K.moved hW.alike hK⟩, hS.F ht⟩) hS.2.2 dX4_isPage_15
  · have h := h.2 c1
    refine lv_iload_n hx hb dX4_isPage_4 rfl (lv_at hl 0 rfl) ?_
    refine lv_bipush (v := 8) hx hb dX4_isPage_5 (by decide) ?_
    refine lv_icmp_ge (tgt := 14) hx hb dX4_isPage_7 (by decide) (fun c2 => ?_) (fun c2 => ?_)
    · have h := h.1 c2
      refine lv_iconst (v := 0) hx hb dX4_isPage_14 (by decide) ?_
      exact W.zret (v := 0) hx hb hr rfl (fun t ht hW => ⟨⟨0, σ, rfl, h, by rw [ht]; exact hP, va_K.moved hW.alike hK⟩, hS.F ht⟩) hS.2.2 dX4_isPage_15
    · have h := h.2 c2
      refine lv_iconst (v := 1) hx hb dX4_isPage_10 (by decide) ?_
      refine lv_goto (tgt := 15) hx hb dX4_isPage_11 (by decide) ?_
      exact W.zret (v := 1) hx hb hr rfl (fun t ht hW => ⟨⟨1, σ, rfl, h, by rw [ht]; exact hP, va_K.moved hW.alike hK⟩, hS.F ht⟩) hS.2.2 dX4_isPage_15
def wp_X4_isWord (σ : Sg) (x1 : Int32) (Q : Sg → Int32 → Prop) : Prop := ((x1 < 0 → (Q σ 0)) ∧ (¬ (x1 < 0) → ((4 ≤ x1 → (Q σ 0)) ∧ (¬ (4 ≤ x1) → (Q σ 1)))))
abbrev rm_X4_isWord : Room := { frames := 0, cells := 0, slots := 0, locals := 0 }
set_option maxHeartbeats 4000000 in
set_option maxRecDepth 100000 in
theorem c_X4_isWord (l : Launch) {D : va_G} {P : List (Nat × Nat)} {ad : Nat × Nat → Nat} {cy : Nat → ClassId} (hAd : AdOk P ad) (hC : InC P) (σ : Sg) (x1 : Int32) (Q : Sg → Int32 → Prop) (h : wp_X4_isWord σ x1 Q) : Met l yX4_isWord wsX4_isWord rm_X4_isWord (xPc D P ad cy σ [.int x1]) (va_Qi (fun r σ' => Q σ' r) (xB D P ad cy) (Aof P ad)) 0 0 (Aof P ad) := by
  refine Met.ofW (cc := cX4_isWord) (maxL := 1) (ret := (some .boolean)) (by decide +kernel) rfl ?_
  intro p e s m args below meth c s₁ B hml hv
  obtain ⟨rfl, hP, hK⟩ := hv
  have hx := B.exec
  have hb := B.bytes
  have hr := B.returns
  have hts := atoms_spec (ws := wsX4_isWord) B.pre
  have hown : s.vm.findClass RX4 = some m.cls := findClass_of_methodNamed B.named
  have hlocks := B.notSynchronized
  have hS : va_S (Aof P ad) s.heap s.heap [] := va_S.rf
  have hl := lv_entry ([.int x1] : List Value) (n := 1) (Nat.le_of_ble_eq_true rfl)
  rw [lg_entry_eq]
  generalize (lg_sl ([.int x1] : List Value) ++ List.replicate (1 - (lg_sl ([.int x1] : List Value)).length) Slot.unset).toArray = ls at hl ⊢
  have hl : lv_has ls 1 [(0, .int x1)] := hl
  unfold wp_X4_isWord at h
  refine lv_iload_n hx hb dX4_isWord_0 rfl (lv_at hl 0 rfl) ?_
  refine lv_if_lt (tgt := 13) hx hb dX4_isWord_1 (by decide) (fun c1 => ?_) (fun c1 => ?_)
  · have h := h.1 c1
    refine lv_iconst (v := 0) hx hb dX4_isWord_13 (by decide) ?_
    exact W.zret (v := 0) hx hb hr rfl (fun t ht hW => ⟨⟨0, σ, rfl, h, by rw [ht]; exact hP, va_K.moved hW.alike hK⟩, hS.F ht⟩) hS.2.2 dX4_isWord_14
  · have h := h.2 c1
    refine lv_iload_n hx hb dX4_isWord_4 rfl (lv_at hl 0 rfl) ?_
    refine lv_iconst (v := 4) hx hb dX4_isWord_5 (by decide) ?_
    refine lv_icmp_ge (tgt := 13) hx hb dX4_isWord_6 (by decide) (fun c2 => ?_) (fun c2 => ?_)
    · have h := h.1 c2
      refine lv_iconst (v := 0) hx hb dX4_isWord_13 (by decide) ?_
      exact W.zret (v := 0) hx hb hr rfl (fun t ht hW => ⟨⟨0, σ, rfl, h, by rw [ht]; exact hP, va_K.moved hW.alike hK⟩, hS.F ht⟩) hS.2.2 dX4_isWord_14
    · have h := h.2 c2
      refine lv_iconst (v := 1) hx hb dX4_isWord_9 (by decide) ?_
      refine lv_goto (tgt := 14) hx hb dX4_isWord_10 (by decide) ?_
      exact W.zret (v := 1) hx hb hr rfl (fun t ht hW => ⟨⟨1, σ, rfl, h, by rw [ht]; exact hP, va_K.moved hW.alike hK⟩, hS.F ht⟩) hS.2.2 dX4_isWord_14
theorem iw_X4_mayStart_X0 : ∀ w ∈ wsX00, w ∈ wsX4_mayStart := fun _ h => List.mem_cons_of_mem _ (List.mem_append_right _ h)
theorem iw_X4_mayStart_X3 : ∀ w ∈ wsX30, w ∈ wsX4_mayStart := fun _ h => List.mem_cons_of_mem _ (List.mem_append_left _ (List.mem_append_right _ h))
theorem iw_X4_mayStart_X4 : ∀ w ∈ wsX40, w ∈ wsX4_mayStart := fun _ h => List.mem_cons_of_mem _ (List.mem_append_left _ (List.mem_append_left _ (List.mem_append_right _ h)))
def wp_X4_mayStart (σ : Sg) (x1 : Int32) (x2 : Int32) (x3 : Int32) (Q : Sg → Int32 → Prop) : Prop := (wp_X4_isNode σ x1 (fun σ1 r2 => ((r2 = 0 → (Q σ1 0)) ∧ (¬ (r2 = 0) → (wp_X4_isPage σ1 x2 (fun σ5 r6 => ((r6 = 0 → (Q σ5 0)) ∧ (¬ (r6 = 0) → (wp_X4_isWord σ5 x3 (fun σ9 r10 => ((r10 = 0 → (Q σ9 0)) ∧ (¬ (r10 = 0) → (vp_in x1 6 ∧ (((σ9.1 6 (ix x1) 1) = 0 → (Q σ9 1)) ∧ (¬ ((σ9.1 6 (ix x1) 1) = 0) → (Q σ9 0))))))))))))))))
abbrev rm_X4_mayStart : Room := { frames := 1, cells := 0, slots := 0, locals := 21 }
set_option maxHeartbeats 4000000 in
set_option maxRecDepth 100000 in
theorem c_X4_mayStart (l : Launch) {D : va_G} {P : List (Nat × Nat)} {ad : Nat × Nat → Nat} {cy : Nat → ClassId} (hAd : AdOk P ad) (hC : InC P) (σ : Sg) (x1 : Int32) (x2 : Int32) (x3 : Int32) (Q : Sg → Int32 → Prop) (h : wp_X4_mayStart σ x1 x2 x3 Q) : Met l yX4_mayStart wsX4_mayStart rm_X4_mayStart (xPc D P ad cy σ [.ref (ad (0, 0)), .int x1, .int x2, .int x3]) (va_Qi (fun r σ' => Q σ' r) (xB D P ad cy) (Aof P ad)) 0 0 (Aof P ad) := by
  refine Met.ofW (cc := cX4_mayStart) (maxL := 4) (ret := (some .boolean)) (by decide +kernel) rfl ?_
  intro p e s m args below meth c s₁ B hml hv
  obtain ⟨rfl, hP, hK⟩ := hv
  have hx := B.exec
  have hb := B.bytes
  have hr := B.returns
  have hts := atoms_spec (ws := wsX4_mayStart) B.pre
  have hown : s.vm.findClass RX4 = some m.cls := findClass_of_methodNamed B.named
  have hlocks := B.notSynchronized
  have hS : va_S (Aof P ad) s.heap s.heap [] := va_S.rf
  have hl := lv_entry ([.ref (ad (0, 0)), .int x1, .int x2, .int x3] : List Value) (n := 4) (Nat.le_of_ble_eq_true rfl)
  rw [lg_entry_eq]
  generalize (lg_sl ([.ref (ad (0, 0)), .int x1, .int x2, .int x3] : List Value) ++ List.replicate (4 - (lg_sl ([.ref (ad (0, 0)), .int x1, .int x2, .int x3] : List Value)).length) Slot.unset).toArray = ls at hl ⊢
  have hl : lv_has ls 4 [(0, .ref (ad (0, 0))), (1, .int x1), (2, .int x2), (3, .int x3)] := hl
  unfold wp_X4_mayStart at h
  refine lv_aload_n hx hb dX4_mayStart_0 rfl (lv_at hl 0 rfl) ?_
  refine lv_iload_n hx hb dX4_mayStart_1 rfl (lv_at hl 1 rfl) ?_
  refine x_cVi (C := RX4) (As := [.int x1]) (rest := []) ⟨hx, hb, hml, hown, hts⟩ hK hP hS (c_X4_isNode l hAd hC σ x1 _ h) (cwV 1 hts gX4_mayStart_X4_isNode rfl rfl rfl (by decide +kernel) ⟨Nat.le_of_ble_eq_true rfl, Nat.le_of_ble_eq_true rfl⟩) (x_recv hK hP (in1 hC (a := 0) (by decide) (by decide)) rfl rfl) rfl hl.1 rfl (Nat.le_of_ble_eq_true rfl) dX4_mayStart_2 ⟨Nat.zero_le _, Nat.zero_le _⟩ (fun r2 σ1 H locs h hP hS => ?_)
  refine lv_if_eq (tgt := 41) hx hb dX4_mayStart_5 (by decide) (fun c4 => ?_) (fun c4 => ?_)
  · have h := h.1 c4
    refine lv_iconst (v := 0) hx hb dX4_mayStart_41 (by decide) ?_
    exact W.zret (v := 0) hx hb hr rfl (fun t ht hW => ⟨⟨0, σ1, rfl, h, by rw [ht]; exact hP, va_K.moved hW.alike hK⟩, hS.F ht⟩) hS.2.2 dX4_mayStart_42
  · have h := h.2 c4
    refine lv_iload_n hx hb dX4_mayStart_8 rfl (lv_at hl 2 rfl) ?_
    refine x_cSi (As := [.int x2]) (rest := []) ⟨hx, hb, hml, hown, hts⟩ hK hP hS (c_X4_isPage l hAd hC σ1 x2 _ h) (va_cwS 1 hts gX4_mayStart_X4_isPage rfl rfl rfl (by decide +kernel) ⟨Nat.le_of_ble_eq_true rfl, Nat.le_of_ble_eq_true rfl⟩) rfl hl.1 rfl (Nat.le_of_ble_eq_true rfl) dX4_mayStart_9 ⟨Nat.zero_le _, Nat.zero_le _⟩ (fun r6 σ5 H locs h hP hS => ?_)
    refine lv_if_eq (tgt := 41) hx hb dX4_mayStart_12 (by decide) (fun c8 => ?_) (fun c8 => ?_)
    · have h := h.1 c8
      refine lv_iconst (v := 0) hx hb dX4_mayStart_41 (by decide) ?_
      exact W.zret (v := 0) hx hb hr rfl (fun t ht hW => ⟨⟨0, σ5, rfl, h, by rw [ht]; exact hP, va_K.moved hW.alike hK⟩, hS.F ht⟩) hS.2.2 dX4_mayStart_42
    · have h := h.2 c8
      refine lv_iload_n hx hb dX4_mayStart_15 rfl (lv_at hl 3 rfl) ?_
      refine x_cSi (As := [.int x3]) (rest := []) ⟨hx, hb, hml, hown, hts⟩ hK hP hS (c_X4_isWord l hAd hC σ5 x3 _ h) (va_cwS 1 hts gX4_mayStart_X4_isWord rfl rfl rfl (by decide +kernel) ⟨Nat.le_of_ble_eq_true rfl, Nat.le_of_ble_eq_true rfl⟩) rfl hl.1 rfl (Nat.le_of_ble_eq_true rfl) dX4_mayStart_16 ⟨Nat.zero_le _, Nat.zero_le _⟩ (fun r10 σ9 H locs h hP hS => ?_)
      refine lv_if_eq (tgt := 41) hx hb dX4_mayStart_19 (by decide) (fun c12 => ?_) (fun c12 => ?_)
      · have h := h.1 c12
        refine lv_iconst (v := 0) hx hb dX4_mayStart_41 (by decide) ?_
        exact W.zret (v := 0) hx hb hr rfl (fun t ht hW => ⟨⟨0, σ9, rfl, h, by rw [ht]; exact hP, va_K.moved hW.alike hK⟩, hS.F ht⟩) hS.2.2 dX4_mayStart_42
      · have h := h.2 c12
        refine lv_aload_n hx hb dX4_mayStart_22 rfl (lv_at hl 0 rfl) ?_
        refine x_get (C := RX4) (T := TX4) (N := 4) (ci := 4) (a := 0) (k := 0) (v := .ref (ad (1, 0))) hx hb hts iw_X4_mayStart_X4 hown hK hP (in1 hC (a := 0) (by decide) (by decide)) rfl rfl 0 (by decide) (hts (.fieldLink RX4 11 "PageOwners" "all" "[LPageOwners$Node;") (by decide +kernel)) (fun _ h9 => h9) rfl dX4_mayStart_23 ?_
        refine lv_iload_n hx hb dX4_mayStart_26 rfl (lv_at hl 1 rfl) ?_
        have hin13 := h.1
        have h := h.2
        refine x_aldN hC hx hb hK hP hin13 dX4_mayStart_27 ?_
        refine x_get (C := RX3) (T := TX3) (N := 10) (ci := 3) (a := 5) (k := (ix x1)) (v := .ref (ad (6, (ix x1)))) hx hb hts iw_X4_mayStart_X3 hown hK hP (in6 hC (a := 5) (by decide) (ix_lt hin13)) rfl rfl 1 (by decide) (hts (.fieldLink RX4 36 "PageOwners$Node" "hand" "LPageOwners$Hand;") (by decide +kernel)) (fun _ h9 => h9) rfl dX4_mayStart_28 ?_
        refine x_get (C := RX0) (T := TX0) (N := 10) (ci := 0) (a := 6) (k := (ix x1)) (v := .int (σ9.1 6 (ix x1) 1)) hx hb hts iw_X4_mayStart_X0 hown hK hP (in6 hC (a := 6) (by decide) (ix_lt hin13)) rfl rfl 1 (by decide) (hts (.fieldLink RX4 117 "PageOwners$Hand" "waitsFor" "I") (by decide +kernel)) (fun _ h9 => h9) rfl dX4_mayStart_31 ?_
        refine lv_if_ne (tgt := 41) hx hb dX4_mayStart_34 (by decide) (fun c14 => ?_) (fun c14 => ?_)
        · have h := h.2 c14
          refine lv_iconst (v := 0) hx hb dX4_mayStart_41 (by decide) ?_
          exact W.zret (v := 0) hx hb hr rfl (fun t ht hW => ⟨⟨0, σ9, rfl, h, by rw [ht]; exact hP, va_K.moved hW.alike hK⟩, hS.F ht⟩) hS.2.2 dX4_mayStart_42
        · have h := h.1 c14
          refine lv_iconst (v := 1) hx hb dX4_mayStart_37 (by decide) ?_
          refine lv_goto (tgt := 42) hx hb dX4_mayStart_38 (by decide) ?_
          exact W.zret (v := 1) hx hb hr rfl (fun t ht hW => ⟨⟨1, σ9, rfl, h, by rw [ht]; exact hP, va_K.moved hW.alike hK⟩, hS.F ht⟩) hS.2.2 dX4_mayStart_42
theorem iw_X4_doneAtOnce_X0 : ∀ w ∈ wsX00, w ∈ wsX4_doneAtOnce := fun _ h => List.mem_cons_of_mem _ (List.mem_append_left _ (List.mem_append_right _ h))
theorem iw_X4_doneAtOnce_X3 : ∀ w ∈ wsX30, w ∈ wsX4_doneAtOnce := fun _ h => List.mem_cons_of_mem _ (List.mem_append_left _ (List.mem_append_left _ (List.mem_append_right _ h)))
theorem iw_X4_doneAtOnce_X4 : ∀ w ∈ wsX40, w ∈ wsX4_doneAtOnce := fun _ h => List.mem_cons_of_mem _ (List.mem_append_right _ h)
def wp_X4_doneAtOnce (σ : Sg) (k1 : Nat) (Q : Sg → Int32 → Prop) : Prop := (((σ.1 6 k1 1) = 0 → (∀ σ2, σ2 = sI σ 2 0 (ix 7) ((σ.1 2 0 (ix 7)) + 1) → Q σ2 1)) ∧ (¬ ((σ.1 6 k1 1) = 0) → Q σ 0))
abbrev rm_X4_doneAtOnce : Room := { frames := 0, cells := 0, slots := 0, locals := 0 }
set_option maxHeartbeats 4000000 in
set_option maxRecDepth 100000 in
theorem c_X4_doneAtOnce (l : Launch) {D : va_G} {P : List (Nat × Nat)} {ad : Nat × Nat → Nat} {cy : Nat → ClassId} (hAd : AdOk P ad) (hC : InC P) (σ : Sg) (k1 : Nat) (hk1 : k1 < 6) (Q : Sg → Int32 → Prop) (h : wp_X4_doneAtOnce σ k1 Q) : Met l yX4_doneAtOnce wsX4_doneAtOnce rm_X4_doneAtOnce (xPc D P ad cy σ [.ref (ad (0, 0)), .ref (ad (5, k1))]) (va_Qi (fun r σ' => Q σ' r) (xB D P ad cy) (Aof P ad)) 0 0 (Aof P ad) := by
  refine Met.ofW (cc := cX4_doneAtOnce) (maxL := 2) (ret := (some .int)) (by decide +kernel) rfl ?_
  intro p e s m args below meth c s₁ B hml hv
  obtain ⟨rfl, hP, hK⟩ := hv
  have hx := B.exec
  have hb := B.bytes
  have hr := B.returns
  have hts := atoms_spec (ws := wsX4_doneAtOnce) B.pre
  have hown : s.vm.findClass RX4 = some m.cls := findClass_of_methodNamed B.named
  have hlocks := B.notSynchronized
  have hS : va_S (Aof P ad) s.heap s.heap [] := va_S.rf
  have hl := lv_entry ([.ref (ad (0, 0)), .ref (ad (5, k1))] : List Value) (n := 2) (Nat.le_of_ble_eq_true rfl)
  rw [lg_entry_eq]
  generalize (lg_sl ([.ref (ad (0, 0)), .ref (ad (5, k1))] : List Value) ++ List.replicate (2 - (lg_sl ([.ref (ad (0, 0)), .ref (ad (5, k1))] : List Value)).length) Slot.unset).toArray = ls at hl ⊢
  have hl : lv_has ls 2 [(0, .ref (ad (0, 0))), (1, .ref (ad (5, k1)))] := hl
  unfold wp_X4_doneAtOnce at h
  refine lv_aload_n hx hb dX4_doneAtOnce_0 rfl (lv_at hl 1 rfl) ?_
  refine x_get (C := RX3) (T := TX3) (N := 10) (ci := 3) (a := 5) (k := k1) (v := .ref (ad (6, k1))) hx hb hts iw_X4_doneAtOnce_X3 hown hK hP (in6 hC (a := 5) (by decide) hk1) rfl rfl 1 (by decide) (hts (.fieldLink RX4 36 "PageOwners$Node" "hand" "LPageOwners$Hand;") (by decide +kernel)) (fun _ h9 => h9) rfl dX4_doneAtOnce_1 ?_
  refine x_get (C := RX0) (T := TX0) (N := 10) (ci := 0) (a := 6) (k := k1) (v := .int (σ.1 6 k1 1)) hx hb hts iw_X4_doneAtOnce_X0 hown hK hP (in6 hC (a := 6) (by decide) hk1) rfl rfl 1 (by decide) (hts (.fieldLink RX4 117 "PageOwners$Hand" "waitsFor" "I") (by decide +kernel)) (fun _ h9 => h9) rfl dX4_doneAtOnce_4 ?_
  refine lv_if_eq (tgt := 12) hx hb dX4_doneAtOnce_7 (by decide) (fun c1 => ?_) (fun c1 => ?_)
  · have h := h.1 c1
    refine lv_aload_n hx hb dX4_doneAtOnce_12 rfl (lv_at hl 0 rfl) ?_
    refine x_get (C := RX4) (T := TX4) (N := 4) (ci := 4) (a := 0) (k := 0) (v := .ref (ad (2, 0))) hx hb hts iw_X4_doneAtOnce_X4 hown hK hP (in1 hC (a := 0) (by decide) (by decide)) rfl rfl 2 (by decide) (hts (.fieldLink RX4 22 "PageOwners" "counts" "[I") (by decide +kernel)) (fun _ h9 => h9) rfl dX4_doneAtOnce_13 ?_
    refine lv_bipush (v := 7) hx hb dX4_doneAtOnce_16 (by decide) ?_
    refine lv_dup2_11 hx hb dX4_doneAtOnce_18 rfl rfl ?_
    refine x_iald (a := 2) (k := 0) (n := 8) hx hb hK hP (in1 hC (a := 2) (by decide) (by decide)) (fun _ => rfl) (by unfold vp_in; decide) dX4_doneAtOnce_19 ?_
    refine lv_iconst (v := 1) hx hb dX4_doneAtOnce_20 (by decide) ?_
    refine lv_iadd hx hb dX4_doneAtOnce_21 ?_
    refine x_iast (a := 2) (k := 0) (n := 8) hx hb hK hP hAd hS (in1 hC (a := 2) (by decide) (by decide)) (fun _ => rfl) (by unfold vp_in; decide) dX4_doneAtOnce_22 (fun H locs hP hS => ?_)
    obtain ⟨σ2, e3⟩ : ∃ z, z = sI σ 2 0 (ix 7) ((σ.1 2 0 (ix 7)) + 1) := ⟨_, rfl⟩
    rw [← e3] at hP
    have h := h σ2 e3
    refine lv_iconst (v := 1) hx hb dX4_doneAtOnce_23 (by decide) ?_
    exact W.iret (v := 1) hx hb hr (fun t ht hW => ⟨⟨1, σ2, rfl, h, by rw [ht]; exact hP, va_K.moved hW.alike hK⟩, hS.F ht⟩) hS.2.2 dX4_doneAtOnce_24
  · have h := h.2 c1
    refine lv_iconst (v := 0) hx hb dX4_doneAtOnce_10 (by decide) ?_
    exact W.iret (v := 0) hx hb hr (fun t ht hW => ⟨⟨0, σ, rfl, h, by rw [ht]; exact hP, va_K.moved hW.alike hK⟩, hS.F ht⟩) hS.2.2 dX4_doneAtOnce_11
theorem iw_X4_send_X4 : ∀ w ∈ wsX40, w ∈ wsX4_send := fun _ h => List.mem_cons_of_mem _ (List.mem_append_left _ (List.mem_append_left _ (List.mem_append_right _ h)))
def wp_X4_send (σ : Sg) (x1 : Int32) (x2 : Int32) (x3 : Int32) (x4 : Int32) (Q : Sg → Nat → Prop) : Prop := (∀ σ1, σ1 = sI σ 2 0 (ix 1) ((σ.1 2 0 (ix 1)) + 1) → (wp_X2_putIn σ1 x1 x2 x3 x4 (fun σ3 r4 => Q σ3 r4)))
abbrev rm_X4_send : Room := { frames := 2, cells := 0, slots := 0, locals := 39 }
set_option maxHeartbeats 4000000 in
set_option maxRecDepth 100000 in
theorem c_X4_send (l : Launch) {D : va_G} {P : List (Nat × Nat)} {ad : Nat × Nat → Nat} {cy : Nat → ClassId} (hAd : AdOk P ad) (hC : InC P) (σ : Sg) (x1 : Int32) (x2 : Int32) (x3 : Int32) (x4 : Int32) (Q : Sg → Nat → Prop) (h : wp_X4_send σ x1 x2 x3 x4 Q) : Met l yX4_send wsX4_send rm_X4_send (xPc D P ad cy σ [.ref (ad (0, 0)), .int x1, .int x2, .int x3, .int x4]) (va_Qr (fun u => u.2 < 32 ∧ Q u.1 u.2) (xBr D P ad cy) (Aof P ad)) 0 0 (Aof P ad) := by
  refine Met.ofW (cc := cX4_send) (maxL := 5) (ret := (some (.object "PageOwners$Letter"))) (by decide +kernel) rfl ?_
  intro p e s m args below meth c s₁ B hml hv
  obtain ⟨rfl, hP, hK⟩ := hv
  have hx := B.exec
  have hb := B.bytes
  have hr := B.returns
  have hts := atoms_spec (ws := wsX4_send) B.pre
  have hown : s.vm.findClass RX4 = some m.cls := findClass_of_methodNamed B.named
  have hlocks := B.notSynchronized
  have hS : va_S (Aof P ad) s.heap s.heap [] := va_S.rf
  have hl := lv_entry ([.ref (ad (0, 0)), .int x1, .int x2, .int x3, .int x4] : List Value) (n := 5) (Nat.le_of_ble_eq_true rfl)
  rw [lg_entry_eq]
  generalize (lg_sl ([.ref (ad (0, 0)), .int x1, .int x2, .int x3, .int x4] : List Value) ++ List.replicate (5 - (lg_sl ([.ref (ad (0, 0)), .int x1, .int x2, .int x3, .int x4] : List Value)).length) Slot.unset).toArray = ls at hl ⊢
  have hl : lv_has ls 5 [(0, .ref (ad (0, 0))), (1, .int x1), (2, .int x2), (3, .int x3), (4, .int x4)] := hl
  unfold wp_X4_send at h
  refine lv_aload_n hx hb dX4_send_0 rfl (lv_at hl 0 rfl) ?_
  refine x_get (C := RX4) (T := TX4) (N := 4) (ci := 4) (a := 0) (k := 0) (v := .ref (ad (2, 0))) hx hb hts iw_X4_send_X4 hown hK hP (in1 hC (a := 0) (by decide) (by decide)) rfl rfl 2 (by decide) (hts (.fieldLink RX4 22 "PageOwners" "counts" "[I") (by decide +kernel)) (fun _ h9 => h9) rfl dX4_send_1 ?_
  refine lv_iconst (v := 1) hx hb dX4_send_4 (by decide) ?_
  refine lv_dup2_11 hx hb dX4_send_5 rfl rfl ?_
  refine x_iald (a := 2) (k := 0) (n := 8) hx hb hK hP (in1 hC (a := 2) (by decide) (by decide)) (fun _ => rfl) (by unfold vp_in; decide) dX4_send_6 ?_
  refine lv_iconst (v := 1) hx hb dX4_send_7 (by decide) ?_
  refine lv_iadd hx hb dX4_send_8 ?_
  refine x_iast (a := 2) (k := 0) (n := 8) hx hb hK hP hAd hS (in1 hC (a := 2) (by decide) (by decide)) (fun _ => rfl) (by unfold vp_in; decide) dX4_send_9 (fun H locs hP hS => ?_)
  obtain ⟨σ1, e2⟩ : ∃ z, z = sI σ 2 0 (ix 1) ((σ.1 2 0 (ix 1)) + 1) := ⟨_, rfl⟩
  rw [← e2] at hP
  have h := h σ1 e2
  refine lv_aload_n hx hb dX4_send_10 rfl (lv_at hl 0 rfl) ?_
  refine x_get (C := RX4) (T := TX4) (N := 4) (ci := 4) (a := 0) (k := 0) (v := .ref (ad (3, 0))) hx hb hts iw_X4_send_X4 hown hK hP (in1 hC (a := 0) (by decide) (by decide)) rfl rfl 1 (by decide) (hts (.fieldLink RX4 18 "PageOwners" "mail" "LPageOwners$Mail;") (by decide +kernel)) (fun _ h9 => h9) rfl dX4_send_11 ?_
  refine lv_iload_n hx hb dX4_send_14 rfl (lv_at hl 1 rfl) ?_
  refine lv_iload_n hx hb dX4_send_15 rfl (lv_at hl 2 rfl) ?_
  refine lv_iload_n hx hb dX4_send_16 rfl (lv_at hl 3 rfl) ?_
  refine lv_iload hx hb dX4_send_17 (lv_at hl 4 rfl) ?_
  refine x_cVr (C := RX2) (As := [.int x1, .int x2, .int x3, .int x4]) (rest := []) ⟨hx, hb, hml, hown, hts⟩ hK hP hS (c_X2_putIn l hAd hC σ1 x1 x2 x3 x4 _ h) (cwV 4 hts gX4_send_X2_putIn rfl rfl rfl (by decide +kernel) ⟨Nat.le_of_ble_eq_true rfl, Nat.le_of_ble_eq_true rfl⟩) (x_recv hK hP (in1 hC (a := 3) (by decide) (by decide)) rfl rfl) rfl hl.1 rfl (Nat.le_of_ble_eq_true rfl) dX4_send_19 ⟨Nat.zero_le _, Nat.zero_le _⟩ (fun r4 σ3 H locs hr5 h hP hS => ?_)
  exact W.aret (v := .ref (ad (15, r4))) hx hb hr (Or.inl ⟨_, rfl⟩) (Or.inr ⟨_, rfl⟩) (fun t ht hW => ⟨⟨(σ3, r4), _, rfl, ⟨hr5, h⟩, rfl, by rw [ht]; exact hP, va_K.moved hW.alike hK⟩, hS.F ht⟩) hS.2.2 dX4_send_22
theorem iw_X4_ask_X0 : ∀ w ∈ wsX00, w ∈ wsX4_ask := fun _ h => List.mem_cons_of_mem _ (List.mem_append_left _ (List.mem_append_left _ (List.mem_append_left _ (List.mem_append_right _ h))))
theorem iw_X4_ask_X1 : ∀ w ∈ wsX10, w ∈ wsX4_ask := fun _ h => List.mem_cons_of_mem _ (List.mem_append_left _ (List.mem_append_left _ (List.mem_append_right _ h)))
theorem iw_X4_ask_X3 : ∀ w ∈ wsX30, w ∈ wsX4_ask := fun _ h => List.mem_cons_of_mem _ (List.mem_append_left _ (List.mem_append_left _ (List.mem_append_left _ (List.mem_append_left _ (List.mem_append_right _ h)))))
def wp_X4_ask (σ : Sg) (k1 : Nat) (x2 : Int32) (x3 : Int32) (Q : Sg → Prop) : Prop := (∀ σ1, σ1 = sI σ 6 k1 1 x3 → (vp_in (σ.1 6 k1 2) 8 ∧ (wp_X4_send σ1 x2 (σ1.1 5 k1 0) (σ1.1 9 k1 (ix (σ.1 6 k1 2))) (σ.1 6 k1 2) (fun σ4 r5 => (∀ σ7, σ7 = sI σ4 15 r5 4 (σ4.1 5 k1 0) → Q σ7)))))
abbrev rm_X4_ask : Room := { frames := 3, cells := 0, slots := 0, locals := 63 }
set_option maxHeartbeats 4000000 in
set_option maxRecDepth 100000 in
theorem c_X4_ask (l : Launch) {D : va_G} {P : List (Nat × Nat)} {ad : Nat × Nat → Nat} {cy : Nat → ClassId} (hAd : AdOk P ad) (hC : InC P) (σ : Sg) (k1 : Nat) (hk1 : k1 < 6) (x2 : Int32) (x3 : Int32) (Q : Sg → Prop) (h : wp_X4_ask σ k1 x2 x3 Q) : Met l yX4_ask wsX4_ask rm_X4_ask (xPc D P ad cy σ [.ref (ad (0, 0)), .ref (ad (5, k1)), .int x2, .int x3]) (va_Qv Q (xB D P ad cy) (Aof P ad)) 0 0 (Aof P ad) := by
  refine Met.ofW (cc := cX4_ask) (maxL := 5) (ret := none) (by decide +kernel) rfl ?_
  intro p e s m args below meth c s₁ B hml hv
  obtain ⟨rfl, hP, hK⟩ := hv
  have hx := B.exec
  have hb := B.bytes
  have hr := B.returns
  have hts := atoms_spec (ws := wsX4_ask) B.pre
  have hown : s.vm.findClass RX4 = some m.cls := findClass_of_methodNamed B.named
  have hlocks := B.notSynchronized
  have hS : va_S (Aof P ad) s.heap s.heap [] := va_S.rf
  have hl := lv_entry ([.ref (ad (0, 0)), .ref (ad (5, k1)), .int x2, .int x3] : List Value) (n := 5) (Nat.le_of_ble_eq_true rfl)
  rw [lg_entry_eq]
  generalize (lg_sl ([.ref (ad (0, 0)), .ref (ad (5, k1)), .int x2, .int x3] : List Value) ++ List.replicate (5 - (lg_sl ([.ref (ad (0, 0)), .ref (ad (5, k1)), .int x2, .int x3] : List Value)).length) Slot.unset).toArray = ls at hl ⊢
  have hl : lv_has ls 5 [(0, .ref (ad (0, 0))), (1, .ref (ad (5, k1))), (2, .int x2), (3, .int x3)] := hl
  unfold wp_X4_ask at h
  refine lv_aload_n hx hb dX4_ask_0 rfl (lv_at hl 1 rfl) ?_
  refine x_get (C := RX3) (T := TX3) (N := 10) (ci := 3) (a := 5) (k := k1) (v := .ref (ad (6, k1))) hx hb hts iw_X4_ask_X3 hown hK hP (in6 hC (a := 5) (by decide) hk1) rfl rfl 1 (by decide) (hts (.fieldLink RX4 36 "PageOwners$Node" "hand" "LPageOwners$Hand;") (by decide +kernel)) (fun _ h9 => h9) rfl dX4_ask_1 ?_
  refine x_get (C := RX0) (T := TX0) (N := 10) (ci := 0) (a := 6) (k := k1) (v := .int (σ.1 6 k1 2)) hx hb hts iw_X4_ask_X0 hown hK hP (in6 hC (a := 6) (by decide) hk1) rfl rfl 2 (by decide) (hts (.fieldLink RX4 127 "PageOwners$Hand" "page" "I") (by decide +kernel)) (fun _ h9 => h9) rfl dX4_ask_4 ?_
  refine lv_istore (lv' := [(4, .int (σ.1 6 k1 2)), (0, .ref (ad (0, 0))), (1, .ref (ad (5, k1))), (2, .int x2), (3, .int x3)]) hx hb dX4_ask_7 hl (by decide) rfl (fun ls hl => ?_)
  refine lv_aload_n hx hb dX4_ask_9 rfl (lv_at hl 2 rfl) ?_
  refine x_get (C := RX3) (T := TX3) (N := 10) (ci := 3) (a := 5) (k := k1) (v := .ref (ad (6, k1))) hx hb hts iw_X4_ask_X3 hown hK hP (in6 hC (a := 5) (by decide) hk1) rfl rfl 1 (by decide) (hts (.fieldLink RX4 36 "PageOwners$Node" "hand" "LPageOwners$Hand;") (by decide +kernel)) (fun _ h9 => h9) rfl dX4_ask_10 ?_
  refine lv_iload_n hx hb dX4_ask_13 rfl (lv_at hl 4 rfl) ?_
  refine x_puti (C := RX0) (T := TX0) (N := 10) (ci := 0) (a := 6) (k := k1) (v := x3) (ty := .int) hx hb hts iw_X4_ask_X0 tyX0 tyX0_ok nmX0 hown hK hP hAd hS (in6 hC (a := 6) (by decide) hk1) rfl rfl 1 (by decide) (hts (.fieldLink RX4 117 "PageOwners$Hand" "waitsFor" "I") (by decide +kernel)) (fun _ h9 => h9) rfl (by decide +kernel) rfl rfl (Nat.le_of_ble_eq_true rfl) rfl dX4_ask_14 (fun H locs hP hS => ?_)
  obtain ⟨σ1, e2⟩ : ∃ z, z = sI σ 6 k1 1 x3 := ⟨_, rfl⟩
  rw [← e2] at hP
  have h := h σ1 e2
  refine lv_aload_n hx hb dX4_ask_17 rfl (lv_at hl 1 rfl) ?_
  refine lv_iload_n hx hb dX4_ask_18 rfl (lv_at hl 3 rfl) ?_
  refine lv_aload_n hx hb dX4_ask_19 rfl (lv_at hl 2 rfl) ?_
  refine x_get (C := RX3) (T := TX3) (N := 10) (ci := 3) (a := 5) (k := k1) (v := .int (σ1.1 5 k1 0)) hx hb hts iw_X4_ask_X3 hown hK hP (in6 hC (a := 5) (by decide) hk1) rfl rfl 0 (by decide) (hts (.fieldLink RX4 181 "PageOwners$Node" "number" "I") (by decide +kernel)) (fun _ h9 => h9) rfl dX4_ask_20 ?_
  refine lv_aload_n hx hb dX4_ask_23 rfl (lv_at hl 2 rfl) ?_
  refine x_get (C := RX3) (T := TX3) (N := 10) (ci := 3) (a := 5) (k := k1) (v := .ref (ad (9, k1))) hx hb hts iw_X4_ask_X3 hown hK hP (in6 hC (a := 5) (by decide) hk1) rfl rfl 4 (by decide) (hts (.fieldLink RX4 144 "PageOwners$Node" "guessOf" "[I") (by decide +kernel)) (fun _ h9 => h9) rfl dX4_ask_24 ?_
  refine lv_iload hx hb dX4_ask_27 (lv_at hl 0 rfl) ?_
  have hin3 := h.1
  have h := h.2
  refine x_iald (a := 9) (k := k1) (n := 8) hx hb hK hP (in6 hC (a := 9) (by decide) hk1) (fun _ => rfl) hin3 dX4_ask_29 ?_
  refine lv_iload hx hb dX4_ask_30 (lv_at hl 0 rfl) ?_
  refine x_cVr (C := RX4) (As := [.int x2, .int (σ1.1 5 k1 0), .int (σ1.1 9 k1 (ix (σ.1 6 k1 2))), .int (σ.1 6 k1 2)]) (rest := []) ⟨hx, hb, hml, hown, hts⟩ hK hP hS (c_X4_send l hAd hC σ1 x2 (σ1.1 5 k1 0) (σ1.1 9 k1 (ix (σ.1 6 k1 2))) (σ.1 6 k1 2) _ h) (cwV 4 hts gX4_ask_X4_send rfl rfl rfl (by decide +kernel) ⟨Nat.le_of_ble_eq_true rfl, Nat.le_of_ble_eq_true rfl⟩) (x_recv hK hP (in1 hC (a := 0) (by decide) (by decide)) rfl rfl) rfl hl.1 rfl (Nat.le_of_ble_eq_true rfl) dX4_ask_32 ⟨Nat.zero_le _, Nat.zero_le _⟩ (fun r5 σ4 H locs hr6 h hP hS => ?_)
  refine lv_aload_n hx hb dX4_ask_35 rfl (lv_at hl 2 rfl) ?_
  refine x_get (C := RX3) (T := TX3) (N := 10) (ci := 3) (a := 5) (k := k1) (v := .int (σ4.1 5 k1 0)) hx hb hts iw_X4_ask_X3 hown hK hP (in6 hC (a := 5) (by decide) hk1) rfl rfl 0 (by decide) (hts (.fieldLink RX4 181 "PageOwners$Node" "number" "I") (by decide +kernel)) (fun _ h9 => h9) rfl dX4_ask_36 ?_
  refine x_puti (C := RX1) (T := TX1) (N := 7) (ci := 1) (a := 15) (k := r5) (v := (σ4.1 5 k1 0)) (ty := .int) hx hb hts iw_X4_ask_X1 tyX1 tyX1_ok nmX1 hown hK hP hAd hS (in32 hC (a := 15) (by decide) hr6) rfl rfl 4 (by decide) (hts (.fieldLink RX4 91 "PageOwners$Letter" "asker" "I") (by decide +kernel)) (fun _ h9 => h9) rfl (by decide +kernel) rfl rfl (Nat.le_of_ble_eq_true rfl) rfl dX4_ask_39 (fun H locs hP hS => ?_)
  obtain ⟨σ7, e8⟩ : ∃ z, z = sI σ4 15 r5 4 (σ4.1 5 k1 0) := ⟨_, rfl⟩
  rw [← e8] at hP
  have h := h σ7 e8
  exact W.vret hx hb hr (fun t ht hW => ⟨⟨σ7, rfl, h, by rw [ht]; exact hP, va_K.moved hW.alike hK⟩, hS.F ht⟩) hS.2.2 dX4_ask_42
theorem iw_X4_finish_X4 : ∀ w ∈ wsX40, w ∈ wsX4_finish := fun _ h => List.mem_cons_of_mem _ (List.mem_append_left _ (List.mem_append_left _ (List.mem_append_right _ h)))
def wp_X4_finish (σ : Sg) (k1 : Nat) (Q : Sg → Prop) : Prop := (wp_X3_doWhatIsAtHand σ k1 (fun σ1 => (∀ σ4, σ4 = sI σ1 2 0 (ix 6) ((σ1.1 2 0 (ix 6)) + 1) → Q σ4)))
abbrev rm_X4_finish : Room := { frames := 1, cells := 0, slots := 0, locals := 21 }
set_option maxHeartbeats 4000000 in
set_option maxRecDepth 100000 in
theorem c_X4_finish (l : Launch) {D : va_G} {P : List (Nat × Nat)} {ad : Nat × Nat → Nat} {cy : Nat → ClassId} (hAd : AdOk P ad) (hC : InC P) (σ : Sg) (k1 : Nat) (hk1 : k1 < 6) (Q : Sg → Prop) (h : wp_X4_finish σ k1 Q) : Met l yX4_finish wsX4_finish rm_X4_finish (xPc D P ad cy σ [.ref (ad (0, 0)), .ref (ad (5, k1))]) (va_Qv Q (xB D P ad cy) (Aof P ad)) 0 0 (Aof P ad) := by
  refine Met.ofW (cc := cX4_finish) (maxL := 2) (ret := none) (by decide +kernel) rfl ?_
  intro p e s m args below meth c s₁ B hml hv
  obtain ⟨rfl, hP, hK⟩ := hv
  have hx := B.exec
  have hb := B.bytes
  have hr := B.returns
  have hts := atoms_spec (ws := wsX4_finish) B.pre
  have hown : s.vm.findClass RX4 = some m.cls := findClass_of_methodNamed B.named
  have hlocks := B.notSynchronized
  have hS : va_S (Aof P ad) s.heap s.heap [] := va_S.rf
  have hl := lv_entry ([.ref (ad (0, 0)), .ref (ad (5, k1))] : List Value) (n := 2) (Nat.le_of_ble_eq_true rfl)
  rw [lg_entry_eq]
  generalize (lg_sl ([.ref (ad (0, 0)), .ref (ad (5, k1))] : List Value) ++ List.replicate (2 - (lg_sl ([.ref (ad (0, 0)), .ref (ad (5, k1))] : List Value)).length) Slot.unset).toArray = ls at hl ⊢
  have hl : lv_has ls 2 [(0, .ref (ad (0, 0))), (1, .ref (ad (5, k1)))] := hl
  unfold wp_X4_finish at h
  refine lv_aload_n hx hb dX4_finish_0 rfl (lv_at hl 1 rfl) ?_
  refine x_cVv (C := RX3) (As := []) (rest := []) ⟨hx, hb, hml, hown, hts⟩ hK hP hS (c_X3_doWhatIsAtHand l hAd hC σ k1 hk1 _ h) (cwV 0 hts gX4_finish_X3_doWhatIsAtHand rfl rfl rfl (by decide +kernel) ⟨Nat.le_of_ble_eq_true rfl, Nat.le_of_ble_eq_true rfl⟩) (x_recv hK hP (in6 hC (a := 5) (by decide) hk1) rfl rfl) rfl hl.1 rfl (Nat.le_of_ble_eq_true rfl) dX4_finish_1 ⟨Nat.zero_le _, Nat.zero_le _⟩ (fun σ1 H locs h hP hS => ?_)
  refine lv_aload_n hx hb dX4_finish_4 rfl (lv_at hl 0 rfl) ?_
  refine x_get (C := RX4) (T := TX4) (N := 4) (ci := 4) (a := 0) (k := 0) (v := .ref (ad (2, 0))) hx hb hts iw_X4_finish_X4 hown hK hP (in1 hC (a := 0) (by decide) (by decide)) rfl rfl 2 (by decide) (hts (.fieldLink RX4 22 "PageOwners" "counts" "[I") (by decide +kernel)) (fun _ h9 => h9) rfl dX4_finish_5 ?_
  refine lv_bipush (v := 6) hx hb dX4_finish_8 (by decide) ?_
  refine lv_dup2_11 hx hb dX4_finish_10 rfl rfl ?_
  refine x_iald (a := 2) (k := 0) (n := 8) hx hb hK hP (in1 hC (a := 2) (by decide) (by decide)) (fun _ => rfl) (by unfold vp_in; decide) dX4_finish_11 ?_
  refine lv_iconst (v := 1) hx hb dX4_finish_12 (by decide) ?_
  refine lv_iadd hx hb dX4_finish_13 ?_
  refine x_iast (a := 2) (k := 0) (n := 8) hx hb hK hP hAd hS (in1 hC (a := 2) (by decide) (by decide)) (fun _ => rfl) (by unfold vp_in; decide) dX4_finish_14 (fun H locs hP hS => ?_)
  obtain ⟨σ4, e5⟩ : ∃ z, z = sI σ1 2 0 (ix 6) ((σ1.1 2 0 (ix 6)) + 1) := ⟨_, rfl⟩
  rw [← e5] at hP
  have h := h σ4 e5
  exact W.vret hx hb hr (fun t ht hW => ⟨⟨σ4, rfl, h, by rw [ht]; exact hP, va_K.moved hW.alike hK⟩, hS.F ht⟩) hS.2.2 dX4_finish_15
theorem iw_X4_callBack_X0 : ∀ w ∈ wsX00, w ∈ wsX4_callBack := fun _ h => List.mem_cons_of_mem _ (List.mem_append_left _ (List.mem_append_left _ (List.mem_append_left _ (List.mem_append_right _ h))))
theorem iw_X4_callBack_X3 : ∀ w ∈ wsX30, w ∈ wsX4_callBack := fun _ h => List.mem_cons_of_mem _ (List.mem_append_left _ (List.mem_append_left _ (List.mem_append_left _ (List.mem_append_left _ (List.mem_append_right _ h)))))
theorem iw_X4_callBack_X4 : ∀ w ∈ wsX40, w ∈ wsX4_callBack := fun _ h => List.mem_cons_of_mem _ (List.mem_append_left _ (List.mem_append_left _ (List.mem_append_right _ h)))
def lp_X4_callBack_33 (k1 : Nat) (Q : Sg → Prop) : Nat → Sg → Int32 → Int32 → Int32 → Prop
  | 0, _, _, _, _ => False
  | n + 1, σ, y2, y3, y4 => (((σ.1 0 0 3) ≤ y4 → Q σ) ∧ (¬ ((σ.1 0 0 3) ≤ y4) → ((((y3 >>> (y4 &&& 31)) &&& 1) = 1 → (wp_X4_send σ 5 (σ.1 5 k1 0) y4 y2 (fun σ9 r10 => (∀ σ12, σ12 = sI σ9 2 0 (ix 5) ((σ9.1 2 0 (ix 5)) + 1) → (∀ σ14, σ14 = sI σ12 6 k1 6 ((σ12.1 6 k1 6) + 1) → lp_X4_callBack_33 k1 Q n σ14 y2 y3 (y4 + 1)))))) ∧ (¬ (((y3 >>> (y4 &&& 31)) &&& 1) = 1) → lp_X4_callBack_33 k1 Q n σ y2 y3 (y4 + 1)))))
def wp_X4_callBack (σ : Sg) (k1 : Nat) (Q : Sg → Prop) : Prop := (vp_in (σ.1 6 k1 2) 8 ∧ (vp_in (σ.1 6 k1 2) 8 ∧ (∀ σ2, σ2 = sI σ 10 k1 (ix (σ.1 6 k1 2)) 0 → (∀ σ5, σ5 = sI σ2 6 k1 1 3 → (∃ n16, lp_X4_callBack_33 k1 Q n16 σ5 (σ.1 6 k1 2) (σ.1 10 k1 (ix (σ.1 6 k1 2))) 0)))))
abbrev rm_X4_callBack : Room := { frames := 3, cells := 0, slots := 0, locals := 63 }
set_option maxHeartbeats 4000000 in
set_option maxRecDepth 100000 in
theorem c_X4_callBack (l : Launch) {D : va_G} {P : List (Nat × Nat)} {ad : Nat × Nat → Nat} {cy : Nat → ClassId} (hAd : AdOk P ad) (hC : InC P) (σ : Sg) (k1 : Nat) (hk1 : k1 < 6) (Q : Sg → Prop) (h : wp_X4_callBack σ k1 Q) : Met l yX4_callBack wsX4_callBack rm_X4_callBack (xPc D P ad cy σ [.ref (ad (0, 0)), .ref (ad (5, k1))]) (va_Qv Q (xB D P ad cy) (Aof P ad)) 0 0 (Aof P ad) := by
  refine Met.ofW (cc := cX4_callBack) (maxL := 5) (ret := none) (by decide +kernel) rfl ?_
  intro p e s m args below meth c s₁ B hml hv
  obtain ⟨rfl, hP, hK⟩ := hv
  have hx := B.exec
  have hb := B.bytes
  have hr := B.returns
  have hts := atoms_spec (ws := wsX4_callBack) B.pre
  have hown : s.vm.findClass RX4 = some m.cls := findClass_of_methodNamed B.named
  have hlocks := B.notSynchronized
  have hS : va_S (Aof P ad) s.heap s.heap [] := va_S.rf
  have hl := lv_entry ([.ref (ad (0, 0)), .ref (ad (5, k1))] : List Value) (n := 5) (Nat.le_of_ble_eq_true rfl)
  rw [lg_entry_eq]
  generalize (lg_sl ([.ref (ad (0, 0)), .ref (ad (5, k1))] : List Value) ++ List.replicate (5 - (lg_sl ([.ref (ad (0, 0)), .ref (ad (5, k1))] : List Value)).length) Slot.unset).toArray = ls at hl ⊢
  have hl : lv_has ls 5 [(0, .ref (ad (0, 0))), (1, .ref (ad (5, k1)))] := hl
  have L33 : ∀ (n : Nat) (σ : Sg) (y2 : Int32) (y3 : Int32) (y4 : Int32) (H : Heap) (locs : List Loc) (ls : Array Slot), lp_X4_callBack_33 k1 Q n σ y2 y3 y4 → Wo D P ad cy σ H → va_S (Aof P ad) s.heap H locs → lv_has ls 5 [(0, .ref (ad (0, 0))), (1, .ref (ad (5, k1))), (2, .int y2), (3, .int y3), (4, .int y4)] → W p l e (headSpec wsX4_callBack rm_X4_callBack).room s m ([.ref (ad (0, 0)), .ref (ad (5, k1))] : List Value).toArray below meth c H locs 0 0 (MQ below (va_Qv Q (xB D P ad cy) (Aof P ad)) ([.ref (ad (0, 0)), .ref (ad (5, k1))] : List Value).toArray s 0 0 (Aof P ad)) (F0 m 33 ls []) := by
    intro n
    induction n with
    | zero =>
      intro σ y2 y3 y4 H locs ls h
      exact h.elim
    | succ n ih =>
      intro σ y2 y3 y4 H locs ls h hP hS hl
      rw [lp_X4_callBack_33] at h
      refine lv_iload hx hb dX4_callBack_33 (lv_at hl 4 rfl) ?_
      refine lv_aload_n hx hb dX4_callBack_35 rfl (lv_at hl 0 rfl) ?_
      refine x_get (C := RX4) (T := TX4) (N := 4) (ci := 4) (a := 0) (k := 0) (v := .int (σ.1 0 0 3)) hx hb hts iw_X4_callBack_X4 hown hK hP (in1 hC (a := 0) (by decide) (by decide)) rfl rfl 3 (by decide) (hts (.fieldLink RX4 141 "PageOwners" "nodes" "I") (by decide +kernel)) (fun _ h9 => h9) rfl dX4_callBack_36 ?_
      refine lv_icmp_ge (tgt := 94) hx hb dX4_callBack_39 (by decide) (fun c7 => ?_) (fun c7 => ?_)
      · have h := h.1 c7
        exact W.vret hx hb hr (fun t ht hW => ⟨⟨σ, rfl, h, by rw [ht]; exact hP, va_K.moved hW.alike hK⟩, hS.F ht⟩) hS.2.2 dX4_callBack_94
      · have h := h.2 c7
        refine lv_iload_n hx hb dX4_callBack_42 rfl (lv_at hl 3 rfl) ?_
        refine lv_iload hx hb dX4_callBack_43 (lv_at hl 4 rfl) ?_
        refine lv_ishr hx hb dX4_callBack_45 ?_
        refine lv_iconst (v := 1) hx hb dX4_callBack_46 (by decide) ?_
        refine lv_iand hx hb dX4_callBack_47 ?_
        refine lv_iconst (v := 1) hx hb dX4_callBack_48 (by decide) ?_
        refine lv_icmp_ne (tgt := 88) hx hb dX4_callBack_49 (by decide) (fun c8 => ?_) (fun c8 => ?_)
        · have h := h.2 c8
          refine lv_iinc (v := (y4 + 1)) (lv' := [(4, .int (y4 + 1)), (0, .ref (ad (0, 0))), (1, .ref (ad (5, k1))), (2, .int y2), (3, .int y3)]) hx hb dX4_callBack_88 hl (k := 4) rfl rfl (by decide) rfl (fun ls hl => ?_)
          refine lv_goto (tgt := 33) hx hb dX4_callBack_91 (by decide) ?_
          exact ih σ y2 y3 (y4 + 1) _ _ _ h hP hS (lv_sub hl [1, 2, 3, 4, 0] rfl)
        · have h := h.1 c8
          refine lv_aload_n hx hb dX4_callBack_52 rfl (lv_at hl 0 rfl) ?_
          refine lv_iconst (v := 5) hx hb dX4_callBack_53 (by decide) ?_
          refine lv_aload_n hx hb dX4_callBack_54 rfl (lv_at hl 1 rfl) ?_
          refine x_get (C := RX3) (T := TX3) (N := 10) (ci := 3) (a := 5) (k := k1) (v := .int (σ.1 5 k1 0)) hx hb hts iw_X4_callBack_X3 hown hK hP (in6 hC (a := 5) (by decide) hk1) rfl rfl 0 (by decide) (hts (.fieldLink RX4 181 "PageOwners$Node" "number" "I") (by decide +kernel)) (fun _ h9 => h9) rfl dX4_callBack_55 ?_
          refine lv_iload hx hb dX4_callBack_58 (lv_at hl 4 rfl) ?_
          refine lv_iload_n hx hb dX4_callBack_60 rfl (lv_at hl 2 rfl) ?_
          refine x_cVr (C := RX4) (As := [.int 5, .int (σ.1 5 k1 0), .int y4, .int y2]) (rest := []) ⟨hx, hb, hml, hown, hts⟩ hK hP hS (c_X4_send l hAd hC σ 5 (σ.1 5 k1 0) y4 y2 _ h) (cwV 4 hts gX4_callBack_X4_send rfl rfl rfl (by decide +kernel) ⟨Nat.le_of_ble_eq_true rfl, Nat.le_of_ble_eq_true rfl⟩) (x_recv hK hP (in1 hC (a := 0) (by decide) (by decide)) rfl rfl) rfl hl.1 rfl (Nat.le_of_ble_eq_true rfl) dX4_callBack_61 ⟨Nat.zero_le _, Nat.zero_le _⟩ (fun r10 σ9 H locs hr11 h hP hS => ?_)
          refine lv_pop hx hb dX4_callBack_64 rfl ?_
          refine lv_aload_n hx hb dX4_callBack_65 rfl (lv_at hl 0 rfl) ?_
          refine x_get (C := RX4) (T := TX4) (N := 4) (ci := 4) (a := 0) (k := 0) (v := .ref (ad (2, 0))) hx hb hts iw_X4_callBack_X4 hown hK hP (in1 hC (a := 0) (by decide) (by decide)) rfl rfl 2 (by decide) (hts (.fieldLink RX4 22 "PageOwners" "counts" "[I") (by decide +kernel)) (fun _ h9 => h9) rfl dX4_callBack_66 ?_
          refine lv_iconst (v := 5) hx hb dX4_callBack_69 (by decide) ?_
          refine lv_dup2_11 hx hb dX4_callBack_70 rfl rfl ?_
          refine x_iald (a := 2) (k := 0) (n := 8) hx hb hK hP (in1 hC (a := 2) (by decide) (by decide)) (fun _ => rfl) (by unfold vp_in; decide) dX4_callBack_71 ?_
          refine lv_iconst (v := 1) hx hb dX4_callBack_72 (by decide) ?_
          refine lv_iadd hx hb dX4_callBack_73 ?_
          refine x_iast (a := 2) (k := 0) (n := 8) hx hb hK hP hAd hS (in1 hC (a := 2) (by decide) (by decide)) (fun _ => rfl) (by unfold vp_in; decide) dX4_callBack_74 (fun H locs hP hS => ?_)
          obtain ⟨σ12, e13⟩ : ∃ z, z = sI σ9 2 0 (ix 5) ((σ9.1 2 0 (ix 5)) + 1) := ⟨_, rfl⟩
          rw [← e13] at hP
          have h := h σ12 e13
          refine lv_aload_n hx hb dX4_callBack_75 rfl (lv_at hl 1 rfl) ?_
          refine x_get (C := RX3) (T := TX3) (N := 10) (ci := 3) (a := 5) (k := k1) (v := .ref (ad (6, k1))) hx hb hts iw_X4_callBack_X3 hown hK hP (in6 hC (a := 5) (by decide) hk1) rfl rfl 1 (by decide) (hts (.fieldLink RX4 36 "PageOwners$Node" "hand" "LPageOwners$Hand;") (by decide +kernel)) (fun _ h9 => h9) rfl dX4_callBack_76 ?_
          refine lv_dup hx hb dX4_callBack_79 rfl ?_
          refine x_get (C := RX0) (T := TX0) (N := 10) (ci := 0) (a := 6) (k := k1) (v := .int (σ12.1 6 k1 6)) hx hb hts iw_X4_callBack_X0 hown hK hP (in6 hC (a := 6) (by decide) hk1) rfl rfl 6 (by decide) (hts (.fieldLink RX4 111 "PageOwners$Hand" "answersDue" "I") (by decide +kernel)) (fun _ h9 => h9) rfl dX4_callBack_80 ?_
          refine lv_iconst (v := 1) hx hb dX4_callBack_83 (by decide) ?_
          refine lv_iadd hx hb dX4_callBack_84 ?_
          refine x_puti (C := RX0) (T := TX0) (N := 10) (ci := 0) (a := 6) (k := k1) (v := ((σ12.1 6 k1 6) + 1)) (ty := .int) hx hb hts iw_X4_callBack_X0 tyX0 tyX0_ok nmX0 hown hK hP hAd hS (in6 hC (a := 6) (by decide) hk1) rfl rfl 6 (by decide) (hts (.fieldLink RX4 111 "PageOwners$Hand" "answersDue" "I") (by decide +kernel)) (fun _ h9 => h9) rfl (by decide +kernel) rfl rfl (Nat.le_of_ble_eq_true rfl) rfl dX4_callBack_85 (fun H locs hP hS => ?_)
          obtain ⟨σ14, e15⟩ : ∃ z, z = sI σ12 6 k1 6 ((σ12.1 6 k1 6) + 1) := ⟨_, rfl⟩
          rw [← e15] at hP
          have h := h σ14 e15
          refine lv_iinc (v := (y4 + 1)) (lv' := [(4, .int (y4 + 1)), (0, .ref (ad (0, 0))), (1, .ref (ad (5, k1))), (2, .int y2), (3, .int y3)]) hx hb dX4_callBack_88 hl (k := 4) rfl rfl (by decide) rfl (fun ls hl => ?_)
          refine lv_goto (tgt := 33) hx hb dX4_callBack_91 (by decide) ?_
          exact ih σ14 y2 y3 (y4 + 1) _ _ _ h hP hS (lv_sub hl [1, 2, 3, 4, 0] rfl)
  unfold wp_X4_callBack at h
  refine lv_aload_n hx hb dX4_callBack_0 rfl (lv_at hl 1 rfl) ?_
  refine x_get (C := RX3) (T := TX3) (N := 10) (ci := 3) (a := 5) (k := k1) (v := .ref (ad (6, k1))) hx hb hts iw_X4_callBack_X3 hown hK hP (in6 hC (a := 5) (by decide) hk1) rfl rfl 1 (by decide) (hts (.fieldLink RX4 36 "PageOwners$Node" "hand" "LPageOwners$Hand;") (by decide +kernel)) (fun _ h9 => h9) rfl dX4_callBack_1 ?_
  refine x_get (C := RX0) (T := TX0) (N := 10) (ci := 0) (a := 6) (k := k1) (v := .int (σ.1 6 k1 2)) hx hb hts iw_X4_callBack_X0 hown hK hP (in6 hC (a := 6) (by decide) hk1) rfl rfl 2 (by decide) (hts (.fieldLink RX4 127 "PageOwners$Hand" "page" "I") (by decide +kernel)) (fun _ h9 => h9) rfl dX4_callBack_4 ?_
  refine lv_istore_n (lv' := [(2, .int (σ.1 6 k1 2)), (0, .ref (ad (0, 0))), (1, .ref (ad (5, k1)))]) hx hb dX4_callBack_7 rfl hl (by decide) rfl (fun ls hl => ?_)
  refine lv_aload_n hx hb dX4_callBack_8 rfl (lv_at hl 2 rfl) ?_
  refine x_get (C := RX3) (T := TX3) (N := 10) (ci := 3) (a := 5) (k := k1) (v := .ref (ad (10, k1))) hx hb hts iw_X4_callBack_X3 hown hK hP (in6 hC (a := 5) (by decide) hk1) rfl rfl 5 (by decide) (hts (.fieldLink RX4 147 "PageOwners$Node" "copySet" "[I") (by decide +kernel)) (fun _ h9 => h9) rfl dX4_callBack_9 ?_
  refine lv_iload_n hx hb dX4_callBack_12 rfl (lv_at hl 0 rfl) ?_
  have hin1 := h.1
  have h := h.2
  refine x_iald (a := 10) (k := k1) (n := 8) hx hb hK hP (in6 hC (a := 10) (by decide) hk1) (fun _ => rfl) hin1 dX4_callBack_13 ?_
  refine lv_istore_n (lv' := [(3, .int (σ.1 10 k1 (ix (σ.1 6 k1 2)))), (2, .int (σ.1 6 k1 2)), (0, .ref (ad (0, 0))), (1, .ref (ad (5, k1)))]) hx hb dX4_callBack_14 rfl hl (by decide) rfl (fun ls hl => ?_)
  refine lv_aload_n hx hb dX4_callBack_15 rfl (lv_at hl 3 rfl) ?_
  refine x_get (C := RX3) (T := TX3) (N := 10) (ci := 3) (a := 5) (k := k1) (v := .ref (ad (10, k1))) hx hb hts iw_X4_callBack_X3 hown hK hP (in6 hC (a := 5) (by decide) hk1) rfl rfl 5 (by decide) (hts (.fieldLink RX4 147 "PageOwners$Node" "copySet" "[I") (by decide +kernel)) (fun _ h9 => h9) rfl dX4_callBack_16 ?_
  refine lv_iload_n hx hb dX4_callBack_19 rfl (lv_at hl 1 rfl) ?_
  refine lv_iconst (v := 0) hx hb dX4_callBack_20 (by decide) ?_
  have hin4 := h.1
  have h := h.2
  refine x_iast (a := 10) (k := k1) (n := 8) hx hb hK hP hAd hS (in6 hC (a := 10) (by decide) hk1) (fun _ => rfl) hin4 dX4_callBack_21 (fun H locs hP hS => ?_)
  obtain ⟨σ2, e3⟩ : ∃ z, z = sI σ 10 k1 (ix (σ.1 6 k1 2)) 0 := ⟨_, rfl⟩
  rw [← e3] at hP
  have h := h σ2 e3
  refine lv_aload_n hx hb dX4_callBack_22 rfl (lv_at hl 3 rfl) ?_
  refine x_get (C := RX3) (T := TX3) (N := 10) (ci := 3) (a := 5) (k := k1) (v := .ref (ad (6, k1))) hx hb hts iw_X4_callBack_X3 hown hK hP (in6 hC (a := 5) (by decide) hk1) rfl rfl 1 (by decide) (hts (.fieldLink RX4 36 "PageOwners$Node" "hand" "LPageOwners$Hand;") (by decide +kernel)) (fun _ h9 => h9) rfl dX4_callBack_23 ?_
  refine lv_iconst (v := 3) hx hb dX4_callBack_26 (by decide) ?_
  refine x_puti (C := RX0) (T := TX0) (N := 10) (ci := 0) (a := 6) (k := k1) (v := 3) (ty := .int) hx hb hts iw_X4_callBack_X0 tyX0 tyX0_ok nmX0 hown hK hP hAd hS (in6 hC (a := 6) (by decide) hk1) rfl rfl 1 (by decide) (hts (.fieldLink RX4 117 "PageOwners$Hand" "waitsFor" "I") (by decide +kernel)) (fun _ h9 => h9) rfl (by decide +kernel) rfl rfl (Nat.le_of_ble_eq_true rfl) rfl dX4_callBack_27 (fun H locs hP hS => ?_)
  obtain ⟨σ5, e6⟩ : ∃ z, z = sI σ2 6 k1 1 3 := ⟨_, rfl⟩
  rw [← e6] at hP
  have h := h σ5 e6
  refine lv_iconst (v := 0) hx hb dX4_callBack_30 (by decide) ?_
  refine lv_istore (lv' := [(4, .int 0), (3, .int (σ.1 10 k1 (ix (σ.1 6 k1 2)))), (2, .int (σ.1 6 k1 2)), (0, .ref (ad (0, 0))), (1, .ref (ad (5, k1)))]) hx hb dX4_callBack_31 hl (by decide) rfl (fun ls hl => ?_)
  obtain ⟨n16, h⟩ := h
  exact L33 n16 σ5 (σ.1 6 k1 2) (σ.1 10 k1 (ix (σ.1 6 k1 2))) 0 _ _ _ h hP hS (lv_sub hl [3, 4, 2, 1, 0] rfl)
theorem iw_X4_sendOn_X1 : ∀ w ∈ wsX10, w ∈ wsX4_sendOn := fun _ h => List.mem_cons_of_mem _ (List.mem_append_left _ (List.mem_append_left _ (List.mem_append_right _ h)))
theorem iw_X4_sendOn_X3 : ∀ w ∈ wsX30, w ∈ wsX4_sendOn := fun _ h => List.mem_cons_of_mem _ (List.mem_append_left _ (List.mem_append_left _ (List.mem_append_left _ (List.mem_append_right _ h))))
theorem iw_X4_sendOn_X4 : ∀ w ∈ wsX40, w ∈ wsX4_sendOn := fun _ h => List.mem_cons_of_mem _ (List.mem_append_left _ (List.mem_append_right _ h))
def wp_X4_sendOn (σ : Sg) (k1 : Nat) (x2 : Int32) (x3 : Int32) (x4 : Int32) (Q : Sg → Prop) : Prop := (vp_in x3 8 ∧ (wp_X4_send σ x2 (σ.1 5 k1 0) (σ.1 9 k1 (ix x3)) x3 (fun σ2 r3 => (∀ σ5, σ5 = sI σ2 15 r3 4 x4 → (∀ σ7, σ7 = sI σ5 2 0 (ix 2) ((σ5.1 2 0 (ix 2)) + 1) → ((x2 = 2 → (vp_in x3 8 ∧ (∀ σ10, σ10 = sI σ7 9 k1 (ix x3) x4 → Q σ10))) ∧ (¬ (x2 = 2) → Q σ7)))))))
abbrev rm_X4_sendOn : Room := { frames := 3, cells := 0, slots := 0, locals := 63 }
set_option maxHeartbeats 4000000 in
set_option maxRecDepth 100000 in
theorem c_X4_sendOn (l : Launch) {D : va_G} {P : List (Nat × Nat)} {ad : Nat × Nat → Nat} {cy : Nat → ClassId} (hAd : AdOk P ad) (hC : InC P) (σ : Sg) (k1 : Nat) (hk1 : k1 < 6) (x2 : Int32) (x3 : Int32) (x4 : Int32) (Q : Sg → Prop) (h : wp_X4_sendOn σ k1 x2 x3 x4 Q) : Met l yX4_sendOn wsX4_sendOn rm_X4_sendOn (xPc D P ad cy σ [.ref (ad (0, 0)), .ref (ad (5, k1)), .int x2, .int x3, .int x4]) (va_Qv Q (xB D P ad cy) (Aof P ad)) 0 0 (Aof P ad) := by
  refine Met.ofW (cc := cX4_sendOn) (maxL := 5) (ret := none) (by decide +kernel) rfl ?_
  intro p e s m args below meth c s₁ B hml hv
  obtain ⟨rfl, hP, hK⟩ := hv
  have hx := B.exec
  have hb := B.bytes
  have hr := B.returns
  have hts := atoms_spec (ws := wsX4_sendOn) B.pre
  have hown : s.vm.findClass RX4 = some m.cls := findClass_of_methodNamed B.named
  have hlocks := B.notSynchronized
  have hS : va_S (Aof P ad) s.heap s.heap [] := va_S.rf
  have hl := lv_entry ([.ref (ad (0, 0)), .ref (ad (5, k1)), .int x2, .int x3, .int x4] : List Value) (n := 5) (Nat.le_of_ble_eq_true rfl)
  rw [lg_entry_eq]
  generalize (lg_sl ([.ref (ad (0, 0)), .ref (ad (5, k1)), .int x2, .int x3, .int x4] : List Value) ++ List.replicate (5 - (lg_sl ([.ref (ad (0, 0)), .ref (ad (5, k1)), .int x2, .int x3, .int x4] : List Value)).length) Slot.unset).toArray = ls at hl ⊢
  have hl : lv_has ls 5 [(0, .ref (ad (0, 0))), (1, .ref (ad (5, k1))), (2, .int x2), (3, .int x3), (4, .int x4)] := hl
  unfold wp_X4_sendOn at h
  refine lv_aload_n hx hb dX4_sendOn_0 rfl (lv_at hl 0 rfl) ?_
  refine lv_iload_n hx hb dX4_sendOn_1 rfl (lv_at hl 2 rfl) ?_
  refine lv_aload_n hx hb dX4_sendOn_2 rfl (lv_at hl 1 rfl) ?_
  refine x_get (C := RX3) (T := TX3) (N := 10) (ci := 3) (a := 5) (k := k1) (v := .int (σ.1 5 k1 0)) hx hb hts iw_X4_sendOn_X3 hown hK hP (in6 hC (a := 5) (by decide) hk1) rfl rfl 0 (by decide) (hts (.fieldLink RX4 181 "PageOwners$Node" "number" "I") (by decide +kernel)) (fun _ h9 => h9) rfl dX4_sendOn_3 ?_
  refine lv_aload_n hx hb dX4_sendOn_6 rfl (lv_at hl 1 rfl) ?_
  refine x_get (C := RX3) (T := TX3) (N := 10) (ci := 3) (a := 5) (k := k1) (v := .ref (ad (9, k1))) hx hb hts iw_X4_sendOn_X3 hown hK hP (in6 hC (a := 5) (by decide) hk1) rfl rfl 4 (by decide) (hts (.fieldLink RX4 144 "PageOwners$Node" "guessOf" "[I") (by decide +kernel)) (fun _ h9 => h9) rfl dX4_sendOn_7 ?_
  refine lv_iload_n hx hb dX4_sendOn_10 rfl (lv_at hl 3 rfl) ?_
  have hin1 := h.1
  have h := h.2
  refine x_iald (a := 9) (k := k1) (n := 8) hx hb hK hP (in6 hC (a := 9) (by decide) hk1) (fun _ => rfl) hin1 dX4_sendOn_11 ?_
  refine lv_iload_n hx hb dX4_sendOn_12 rfl (lv_at hl 3 rfl) ?_
  refine x_cVr (C := RX4) (As := [.int x2, .int (σ.1 5 k1 0), .int (σ.1 9 k1 (ix x3)), .int x3]) (rest := []) ⟨hx, hb, hml, hown, hts⟩ hK hP hS (c_X4_send l hAd hC σ x2 (σ.1 5 k1 0) (σ.1 9 k1 (ix x3)) x3 _ h) (cwV 4 hts gX4_sendOn_X4_send rfl rfl rfl (by decide +kernel) ⟨Nat.le_of_ble_eq_true rfl, Nat.le_of_ble_eq_true rfl⟩) (x_recv hK hP (in1 hC (a := 0) (by decide) (by decide)) rfl rfl) rfl hl.1 rfl (Nat.le_of_ble_eq_true rfl) dX4_sendOn_13 ⟨Nat.zero_le _, Nat.zero_le _⟩ (fun r3 σ2 H locs hr4 h hP hS => ?_)
  refine lv_iload hx hb dX4_sendOn_16 (lv_at hl 4 rfl) ?_
  refine x_puti (C := RX1) (T := TX1) (N := 7) (ci := 1) (a := 15) (k := r3) (v := x4) (ty := .int) hx hb hts iw_X4_sendOn_X1 tyX1 tyX1_ok nmX1 hown hK hP hAd hS (in32 hC (a := 15) (by decide) hr4) rfl rfl 4 (by decide) (hts (.fieldLink RX4 91 "PageOwners$Letter" "asker" "I") (by decide +kernel)) (fun _ h9 => h9) rfl (by decide +kernel) rfl rfl (Nat.le_of_ble_eq_true rfl) rfl dX4_sendOn_18 (fun H locs hP hS => ?_)
  obtain ⟨σ5, e6⟩ : ∃ z, z = sI σ2 15 r3 4 x4 := ⟨_, rfl⟩
  rw [← e6] at hP
  have h := h σ5 e6
  refine lv_aload_n hx hb dX4_sendOn_21 rfl (lv_at hl 0 rfl) ?_
  refine x_get (C := RX4) (T := TX4) (N := 4) (ci := 4) (a := 0) (k := 0) (v := .ref (ad (2, 0))) hx hb hts iw_X4_sendOn_X4 hown hK hP (in1 hC (a := 0) (by decide) (by decide)) rfl rfl 2 (by decide) (hts (.fieldLink RX4 22 "PageOwners" "counts" "[I") (by decide +kernel)) (fun _ h9 => h9) rfl dX4_sendOn_22 ?_
  refine lv_iconst (v := 2) hx hb dX4_sendOn_25 (by decide) ?_
  refine lv_dup2_11 hx hb dX4_sendOn_26 rfl rfl ?_
  refine x_iald (a := 2) (k := 0) (n := 8) hx hb hK hP (in1 hC (a := 2) (by decide) (by decide)) (fun _ => rfl) (by unfold vp_in; decide) dX4_sendOn_27 ?_
  refine lv_iconst (v := 1) hx hb dX4_sendOn_28 (by decide) ?_
  refine lv_iadd hx hb dX4_sendOn_29 ?_
  refine x_iast (a := 2) (k := 0) (n := 8) hx hb hK hP hAd hS (in1 hC (a := 2) (by decide) (by decide)) (fun _ => rfl) (by unfold vp_in; decide) dX4_sendOn_30 (fun H locs hP hS => ?_)
  obtain ⟨σ7, e8⟩ : ∃ z, z = sI σ5 2 0 (ix 2) ((σ5.1 2 0 (ix 2)) + 1) := ⟨_, rfl⟩
  rw [← e8] at hP
  have h := h σ7 e8
  refine lv_iload_n hx hb dX4_sendOn_31 rfl (lv_at hl 2 rfl) ?_
  refine lv_iconst (v := 2) hx hb dX4_sendOn_32 (by decide) ?_
  refine lv_icmp_ne (tgt := 44) hx hb dX4_sendOn_33 (by decide) (fun c9 => ?_) (fun c9 => ?_)
  · have h := h.2 c9
    exact W.vret hx hb hr (fun t ht hW => ⟨⟨σ7, rfl, h, by rw [ht]; exact hP, va_K.moved hW.alike hK⟩, hS.F ht⟩) hS.2.2 dX4_sendOn_44
  · have h := h.1 c9
    refine lv_aload_n hx hb dX4_sendOn_36 rfl (lv_at hl 1 rfl) ?_
    refine x_get (C := RX3) (T := TX3) (N := 10) (ci := 3) (a := 5) (k := k1) (v := .ref (ad (9, k1))) hx hb hts iw_X4_sendOn_X3 hown hK hP (in6 hC (a := 5) (by decide) hk1) rfl rfl 4 (by decide) (hts (.fieldLink RX4 144 "PageOwners$Node" "guessOf" "[I") (by decide +kernel)) (fun _ h9 => h9) rfl dX4_sendOn_37 ?_
    refine lv_iload_n hx hb dX4_sendOn_40 rfl (lv_at hl 3 rfl) ?_
    refine lv_iload hx hb dX4_sendOn_41 (lv_at hl 4 rfl) ?_
    have hin12 := h.1
    have h := h.2
    refine x_iast (a := 9) (k := k1) (n := 8) hx hb hK hP hAd hS (in6 hC (a := 9) (by decide) hk1) (fun _ => rfl) hin12 dX4_sendOn_43 (fun H locs hP hS => ?_)
    obtain ⟨σ10, e11⟩ : ∃ z, z = sI σ7 9 k1 (ix x3) x4 := ⟨_, rfl⟩
    rw [← e11] at hP
    have h := h σ10 e11
    exact W.vret hx hb hr (fun t ht hW => ⟨⟨σ10, rfl, h, by rw [ht]; exact hP, va_K.moved hW.alike hK⟩, hS.F ht⟩) hS.2.2 dX4_sendOn_44
theorem iw_X4_giveToRead_X1 : ∀ w ∈ wsX10, w ∈ wsX4_giveToRead := fun _ h => List.mem_cons_of_mem _ (List.mem_append_left _ (List.mem_append_left _ (List.mem_append_right _ h)))
theorem iw_X4_giveToRead_X3 : ∀ w ∈ wsX30, w ∈ wsX4_giveToRead := fun _ h => List.mem_cons_of_mem _ (List.mem_append_left _ (List.mem_append_left _ (List.mem_append_left _ (List.mem_append_right _ h))))
theorem iw_X4_giveToRead_X4 : ∀ w ∈ wsX40, w ∈ wsX4_giveToRead := fun _ h => List.mem_cons_of_mem _ (List.mem_append_left _ (List.mem_append_right _ h))
def wp_X4_giveToRead (σ : Sg) (k1 : Nat) (x2 : Int32) (x3 : Int32) (Q : Sg → Prop) : Prop := (vp_in x2 8 ∧ (vp_in x2 8 ∧ (∀ σ2, σ2 = sI σ 10 k1 (ix x2) ((σ.1 10 k1 (ix x2)) ||| (1 <<< (x3 &&& 31))) → (vp_in x2 8 ∧ (∀ σ5, σ5 = sI σ2 7 k1 (ix x2) 1 → (wp_X4_send σ5 3 (σ5.1 5 k1 0) x3 x2 (fun σ8 r9 => ((¬ ((x2 * 4) : Int32) < 0 ∧ ¬ (0 : Int32) < 0 ∧ ¬ (4 : Int32) < 0 ∧ ix (x2 * 4) + ix 4 ≤ 32 ∧ ix 0 + ix 4 ≤ 4) ∧ (∀ σ11, σ11 = sC σ8 11 k1 (ix (x2 * 4)) 16 r9 (ix 0) (ix 4) → (∀ σ13, σ13 = sI σ11 2 0 (ix 3) ((σ11.1 2 0 (ix 3)) + 1) → Q σ13))))))))))
abbrev rm_X4_giveToRead : Room := { frames := 3, cells := 0, slots := 0, locals := 63 }
set_option maxHeartbeats 4000000 in
set_option maxRecDepth 100000 in
theorem c_X4_giveToRead (l : Launch) {D : va_G} {P : List (Nat × Nat)} {ad : Nat × Nat → Nat} {cy : Nat → ClassId} (hAd : AdOk P ad) (hC : InC P) (σ : Sg) (k1 : Nat) (hk1 : k1 < 6) (x2 : Int32) (x3 : Int32) (Q : Sg → Prop) (h : wp_X4_giveToRead σ k1 x2 x3 Q) : Met l yX4_giveToRead wsX4_giveToRead rm_X4_giveToRead (xPc D P ad cy σ [.ref (ad (0, 0)), .ref (ad (5, k1)), .int x2, .int x3]) (va_Qv Q (xB D P ad cy) (Aof P ad)) 0 0 (Aof P ad) := by
  refine Met.ofW (cc := cX4_giveToRead) (maxL := 5) (ret := none) (by decide +kernel) rfl ?_
  intro p e s m args below meth c s₁ B hml hv
  obtain ⟨rfl, hP, hK⟩ := hv
  have hx := B.exec
  have hb := B.bytes
  have hr := B.returns
  have hts := atoms_spec (ws := wsX4_giveToRead) B.pre
  have hown : s.vm.findClass RX4 = some m.cls := findClass_of_methodNamed B.named
  have hlocks := B.notSynchronized
  have hS : va_S (Aof P ad) s.heap s.heap [] := va_S.rf
  have hl := lv_entry ([.ref (ad (0, 0)), .ref (ad (5, k1)), .int x2, .int x3] : List Value) (n := 5) (Nat.le_of_ble_eq_true rfl)
  rw [lg_entry_eq]
  generalize (lg_sl ([.ref (ad (0, 0)), .ref (ad (5, k1)), .int x2, .int x3] : List Value) ++ List.replicate (5 - (lg_sl ([.ref (ad (0, 0)), .ref (ad (5, k1)), .int x2, .int x3] : List Value)).length) Slot.unset).toArray = ls at hl ⊢
  have hl : lv_has ls 5 [(0, .ref (ad (0, 0))), (1, .ref (ad (5, k1))), (2, .int x2), (3, .int x3)] := hl
  unfold wp_X4_giveToRead at h
  refine lv_aload_n hx hb dX4_giveToRead_0 rfl (lv_at hl 1 rfl) ?_
  refine x_get (C := RX3) (T := TX3) (N := 10) (ci := 3) (a := 5) (k := k1) (v := .ref (ad (10, k1))) hx hb hts iw_X4_giveToRead_X3 hown hK hP (in6 hC (a := 5) (by decide) hk1) rfl rfl 5 (by decide) (hts (.fieldLink RX4 147 "PageOwners$Node" "copySet" "[I") (by decide +kernel)) (fun _ h9 => h9) rfl dX4_giveToRead_1 ?_
  refine lv_iload_n hx hb dX4_giveToRead_4 rfl (lv_at hl 2 rfl) ?_
  refine lv_dup2_11 hx hb dX4_giveToRead_5 rfl rfl ?_
  have hin1 := h.1
  have h := h.2
  refine x_iald (a := 10) (k := k1) (n := 8) hx hb hK hP (in6 hC (a := 10) (by decide) hk1) (fun _ => rfl) hin1 dX4_giveToRead_6 ?_
  refine lv_iconst (v := 1) hx hb dX4_giveToRead_7 (by decide) ?_
  refine lv_iload_n hx hb dX4_giveToRead_8 rfl (lv_at hl 3 rfl) ?_
  refine lv_ishl hx hb dX4_giveToRead_9 ?_
  refine lv_ior hx hb dX4_giveToRead_10 ?_
  have hin4 := h.1
  have h := h.2
  refine x_iast (a := 10) (k := k1) (n := 8) hx hb hK hP hAd hS (in6 hC (a := 10) (by decide) hk1) (fun _ => rfl) hin4 dX4_giveToRead_11 (fun H locs hP hS => ?_)
  obtain ⟨σ2, e3⟩ : ∃ z, z = sI σ 10 k1 (ix x2) ((σ.1 10 k1 (ix x2)) ||| (1 <<< (x3 &&& 31))) := ⟨_, rfl⟩
  rw [← e3] at hP
  have h := h σ2 e3
  refine lv_aload_n hx hb dX4_giveToRead_12 rfl (lv_at hl 1 rfl) ?_
  refine x_get (C := RX3) (T := TX3) (N := 10) (ci := 3) (a := 5) (k := k1) (v := .ref (ad (7, k1))) hx hb hts iw_X4_giveToRead_X3 hown hK hP (in6 hC (a := 5) (by decide) hk1) rfl rfl 2 (by decide) (hts (.fieldLink RX4 46 "PageOwners$Node" "accessTo" "[I") (by decide +kernel)) (fun _ h9 => h9) rfl dX4_giveToRead_13 ?_
  refine lv_iload_n hx hb dX4_giveToRead_16 rfl (lv_at hl 2 rfl) ?_
  refine lv_iconst (v := 1) hx hb dX4_giveToRead_17 (by decide) ?_
  have hin7 := h.1
  have h := h.2
  refine x_iast (a := 7) (k := k1) (n := 8) hx hb hK hP hAd hS (in6 hC (a := 7) (by decide) hk1) (fun _ => rfl) hin7 dX4_giveToRead_18 (fun H locs hP hS => ?_)
  obtain ⟨σ5, e6⟩ : ∃ z, z = sI σ2 7 k1 (ix x2) 1 := ⟨_, rfl⟩
  rw [← e6] at hP
  have h := h σ5 e6
  refine lv_aload_n hx hb dX4_giveToRead_19 rfl (lv_at hl 0 rfl) ?_
  refine lv_iconst (v := 3) hx hb dX4_giveToRead_20 (by decide) ?_
  refine lv_aload_n hx hb dX4_giveToRead_21 rfl (lv_at hl 1 rfl) ?_
  refine x_get (C := RX3) (T := TX3) (N := 10) (ci := 3) (a := 5) (k := k1) (v := .int (σ5.1 5 k1 0)) hx hb hts iw_X4_giveToRead_X3 hown hK hP (in6 hC (a := 5) (by decide) hk1) rfl rfl 0 (by decide) (hts (.fieldLink RX4 181 "PageOwners$Node" "number" "I") (by decide +kernel)) (fun _ h9 => h9) rfl dX4_giveToRead_22 ?_
  refine lv_iload_n hx hb dX4_giveToRead_25 rfl (lv_at hl 3 rfl) ?_
  refine lv_iload_n hx hb dX4_giveToRead_26 rfl (lv_at hl 2 rfl) ?_
  refine x_cVr (C := RX4) (As := [.int 3, .int (σ5.1 5 k1 0), .int x3, .int x2]) (rest := []) ⟨hx, hb, hml, hown, hts⟩ hK hP hS (c_X4_send l hAd hC σ5 3 (σ5.1 5 k1 0) x3 x2 _ h) (cwV 4 hts gX4_giveToRead_X4_send rfl rfl rfl (by decide +kernel) ⟨Nat.le_of_ble_eq_true rfl, Nat.le_of_ble_eq_true rfl⟩) (x_recv hK hP (in1 hC (a := 0) (by decide) (by decide)) rfl rfl) rfl hl.1 rfl (Nat.le_of_ble_eq_true rfl) dX4_giveToRead_27 ⟨Nat.zero_le _, Nat.zero_le _⟩ (fun r9 σ8 H locs hr10 h hP hS => ?_)
  refine lv_astore (lv' := [(4, .ref (ad (15, r9))), (0, .ref (ad (0, 0))), (1, .ref (ad (5, k1))), (2, .int x2), (3, .int x3)]) hx hb dX4_giveToRead_30 hl (by decide) rfl (fun ls hl => ?_)
  refine lv_aload_n hx hb dX4_giveToRead_32 rfl (lv_at hl 2 rfl) ?_
  refine x_get (C := RX3) (T := TX3) (N := 10) (ci := 3) (a := 5) (k := k1) (v := .ref (ad (11, k1))) hx hb hts iw_X4_giveToRead_X3 hown hK hP (in6 hC (a := 5) (by decide) hk1) rfl rfl 6 (by decide) (hts (.fieldLink RX4 153 "PageOwners$Node" "words" "[J") (by decide +kernel)) (fun _ h9 => h9) rfl dX4_giveToRead_33 ?_
  refine lv_iload_n hx hb dX4_giveToRead_36 rfl (lv_at hl 3 rfl) ?_
  refine lv_iconst (v := 4) hx hb dX4_giveToRead_37 (by decide) ?_
  refine lv_imul hx hb dX4_giveToRead_38 ?_
  refine lv_aload hx hb dX4_giveToRead_39 (lv_at hl 0 rfl) ?_
  refine x_get (C := RX1) (T := TX1) (N := 7) (ci := 1) (a := 15) (k := r9) (v := .ref (ad (16, r9))) hx hb hts iw_X4_giveToRead_X1 hown hK hP (in32 hC (a := 15) (by decide) hr10) rfl rfl 6 (by decide) (hts (.fieldLink RX4 173 "PageOwners$Letter" "words" "[J") (by decide +kernel)) (fun _ h9 => h9) rfl dX4_giveToRead_41 ?_
  refine lv_iconst (v := 0) hx hb dX4_giveToRead_44 (by decide) ?_
  refine lv_iconst (v := 4) hx hb dX4_giveToRead_45 (by decide) ?_
  have q15 := h.1
  have h := h.2
  refine x_copy (a := 11) (k := k1) (b := 16) (h := r9) (n0 := 32) (n1 := 4) hx hb (hml.trans hl.1.symm) hown (hts (.methodLink RX4 221 arraycopyName) (by decide +kernel)) (hts (.native arraycopyName) (by decide +kernel)) (hts (.static arraycopyName) (by decide +kernel)) (hts (.initialized "java/lang/System") (by decide +kernel)) hK hP hAd hS (in6 hC (a := 11) (by decide) hk1) (in32 hC (a := 16) (by decide) hr10) (fun _ => rfl) (fun _ => rfl) q15.1 q15.2.1 q15.2.2.1 q15.2.2.2.1 q15.2.2.2.2 (Nat.le_of_ble_eq_true rfl) (by decide) dX4_giveToRead_46 (fun H locs hP hS => ?_)
  obtain ⟨σ11, e12⟩ : ∃ z, z = sC σ8 11 k1 (ix (x2 * 4)) 16 r9 (ix 0) (ix 4) := ⟨_, rfl⟩
  rw [← e12] at hP
  have h := h σ11 e12
  refine lv_aload_n hx hb dX4_giveToRead_49 rfl (lv_at hl 1 rfl) ?_
  refine x_get (C := RX4) (T := TX4) (N := 4) (ci := 4) (a := 0) (k := 0) (v := .ref (ad (2, 0))) hx hb hts iw_X4_giveToRead_X4 hown hK hP (in1 hC (a := 0) (by decide) (by decide)) rfl rfl 2 (by decide) (hts (.fieldLink RX4 22 "PageOwners" "counts" "[I") (by decide +kernel)) (fun _ h9 => h9) rfl dX4_giveToRead_50 ?_
  refine lv_iconst (v := 3) hx hb dX4_giveToRead_53 (by decide) ?_
  refine lv_dup2_11 hx hb dX4_giveToRead_54 rfl rfl ?_
  refine x_iald (a := 2) (k := 0) (n := 8) hx hb hK hP (in1 hC (a := 2) (by decide) (by decide)) (fun _ => rfl) (by unfold vp_in; decide) dX4_giveToRead_55 ?_
  refine lv_iconst (v := 1) hx hb dX4_giveToRead_56 (by decide) ?_
  refine lv_iadd hx hb dX4_giveToRead_57 ?_
  refine x_iast (a := 2) (k := 0) (n := 8) hx hb hK hP hAd hS (in1 hC (a := 2) (by decide) (by decide)) (fun _ => rfl) (by unfold vp_in; decide) dX4_giveToRead_58 (fun H locs hP hS => ?_)
  obtain ⟨σ13, e14⟩ : ∃ z, z = sI σ11 2 0 (ix 3) ((σ11.1 2 0 (ix 3)) + 1) := ⟨_, rfl⟩
  rw [← e14] at hP
  have h := h σ13 e14
  exact W.vret hx hb hr (fun t ht hW => ⟨⟨σ13, rfl, h, by rw [ht]; exact hP, va_K.moved hW.alike hK⟩, hS.F ht⟩) hS.2.2 dX4_giveToRead_59
theorem iw_X4_giveToWrite_X1 : ∀ w ∈ wsX10, w ∈ wsX4_giveToWrite := fun _ h => List.mem_cons_of_mem _ (List.mem_append_left _ (List.mem_append_left _ (List.mem_append_right _ h)))
theorem iw_X4_giveToWrite_X3 : ∀ w ∈ wsX30, w ∈ wsX4_giveToWrite := fun _ h => List.mem_cons_of_mem _ (List.mem_append_left _ (List.mem_append_left _ (List.mem_append_left _ (List.mem_append_right _ h))))
theorem iw_X4_giveToWrite_X4 : ∀ w ∈ wsX40, w ∈ wsX4_giveToWrite := fun _ h => List.mem_cons_of_mem _ (List.mem_append_left _ (List.mem_append_right _ h))
def wp_X4_giveToWrite (σ : Sg) (k1 : Nat) (x2 : Int32) (x3 : Int32) (Q : Sg → Prop) : Prop := (wp_X4_send σ 4 (σ.1 5 k1 0) x3 x2 (fun σ1 r2 => ((¬ ((x2 * 4) : Int32) < 0 ∧ ¬ (0 : Int32) < 0 ∧ ¬ (4 : Int32) < 0 ∧ ix (x2 * 4) + ix 4 ≤ 32 ∧ ix 0 + ix 4 ≤ 4) ∧ (∀ σ4, σ4 = sC σ1 11 k1 (ix (x2 * 4)) 16 r2 (ix 0) (ix 4) → (vp_in x2 8 ∧ (∀ σ7, σ7 = sI σ4 15 r2 5 (σ4.1 10 k1 (ix x2)) → (∀ σ9, σ9 = sI σ7 2 0 (ix 4) ((σ7.1 2 0 (ix 4)) + 1) → (vp_in x2 8 ∧ (∀ σ11, σ11 = sI σ9 10 k1 (ix x2) 0 → (vp_in x2 8 ∧ (∀ σ14, σ14 = sI σ11 8 k1 (ix x2) 0 → (vp_in x2 8 ∧ (∀ σ17, σ17 = sI σ14 7 k1 (ix x2) 0 → (vp_in x2 8 ∧ (∀ σ20, σ20 = sI σ17 9 k1 (ix x2) x3 → Q σ20)))))))))))))))
abbrev rm_X4_giveToWrite : Room := { frames := 3, cells := 0, slots := 0, locals := 63 }
set_option maxHeartbeats 4000000 in
set_option maxRecDepth 100000 in
theorem c_X4_giveToWrite (l : Launch) {D : va_G} {P : List (Nat × Nat)} {ad : Nat × Nat → Nat} {cy : Nat → ClassId} (hAd : AdOk P ad) (hC : InC P) (σ : Sg) (k1 : Nat) (hk1 : k1 < 6) (x2 : Int32) (x3 : Int32) (Q : Sg → Prop) (h : wp_X4_giveToWrite σ k1 x2 x3 Q) : Met l yX4_giveToWrite wsX4_giveToWrite rm_X4_giveToWrite (xPc D P ad cy σ [.ref (ad (0, 0)), .ref (ad (5, k1)), .int x2, .int x3]) (va_Qv Q (xB D P ad cy) (Aof P ad)) 0 0 (Aof P ad) := by
  refine Met.ofW (cc := cX4_giveToWrite) (maxL := 5) (ret := none) (by decide +kernel) rfl ?_
  intro p e s m args below meth c s₁ B hml hv
  obtain ⟨rfl, hP, hK⟩ := hv
  have hx := B.exec
  have hb := B.bytes
  have hr := B.returns
  have hts := atoms_spec (ws := wsX4_giveToWrite) B.pre
  have hown : s.vm.findClass RX4 = some m.cls := findClass_of_methodNamed B.named
  have hlocks := B.notSynchronized
  have hS : va_S (Aof P ad) s.heap s.heap [] := va_S.rf
  have hl := lv_entry ([.ref (ad (0, 0)), .ref (ad (5, k1)), .int x2, .int x3] : List Value) (n := 5) (Nat.le_of_ble_eq_true rfl)
  rw [lg_entry_eq]
  generalize (lg_sl ([.ref (ad (0, 0)), .ref (ad (5, k1)), .int x2, .int x3] : List Value) ++ List.replicate (5 - (lg_sl ([.ref (ad (0, 0)), .ref (ad (5, k1)), .int x2, .int x3] : List Value)).length) Slot.unset).toArray = ls at hl ⊢
  have hl : lv_has ls 5 [(0, .ref (ad (0, 0))), (1, .ref (ad (5, k1))), (2, .int x2), (3, .int x3)] := hl
  unfold wp_X4_giveToWrite at h
  refine lv_aload_n hx hb dX4_giveToWrite_0 rfl (lv_at hl 0 rfl) ?_
  refine lv_iconst (v := 4) hx hb dX4_giveToWrite_1 (by decide) ?_
  refine lv_aload_n hx hb dX4_giveToWrite_2 rfl (lv_at hl 1 rfl) ?_
  refine x_get (C := RX3) (T := TX3) (N := 10) (ci := 3) (a := 5) (k := k1) (v := .int (σ.1 5 k1 0)) hx hb hts iw_X4_giveToWrite_X3 hown hK hP (in6 hC (a := 5) (by decide) hk1) rfl rfl 0 (by decide) (hts (.fieldLink RX4 181 "PageOwners$Node" "number" "I") (by decide +kernel)) (fun _ h9 => h9) rfl dX4_giveToWrite_3 ?_
  refine lv_iload_n hx hb dX4_giveToWrite_6 rfl (lv_at hl 3 rfl) ?_
  refine lv_iload_n hx hb dX4_giveToWrite_7 rfl (lv_at hl 2 rfl) ?_
  refine x_cVr (C := RX4) (As := [.int 4, .int (σ.1 5 k1 0), .int x3, .int x2]) (rest := []) ⟨hx, hb, hml, hown, hts⟩ hK hP hS (c_X4_send l hAd hC σ 4 (σ.1 5 k1 0) x3 x2 _ h) (cwV 4 hts gX4_giveToWrite_X4_send rfl rfl rfl (by decide +kernel) ⟨Nat.le_of_ble_eq_true rfl, Nat.le_of_ble_eq_true rfl⟩) (x_recv hK hP (in1 hC (a := 0) (by decide) (by decide)) rfl rfl) rfl hl.1 rfl (Nat.le_of_ble_eq_true rfl) dX4_giveToWrite_8 ⟨Nat.zero_le _, Nat.zero_le _⟩ (fun r2 σ1 H locs hr3 h hP hS => ?_)
  refine lv_astore (lv' := [(4, .ref (ad (15, r2))), (0, .ref (ad (0, 0))), (1, .ref (ad (5, k1))), (2, .int x2), (3, .int x3)]) hx hb dX4_giveToWrite_11 hl (by decide) rfl (fun ls hl => ?_)
  refine lv_aload_n hx hb dX4_giveToWrite_13 rfl (lv_at hl 2 rfl) ?_
  refine x_get (C := RX3) (T := TX3) (N := 10) (ci := 3) (a := 5) (k := k1) (v := .ref (ad (11, k1))) hx hb hts iw_X4_giveToWrite_X3 hown hK hP (in6 hC (a := 5) (by decide) hk1) rfl rfl 6 (by decide) (hts (.fieldLink RX4 153 "PageOwners$Node" "words" "[J") (by decide +kernel)) (fun _ h9 => h9) rfl dX4_giveToWrite_14 ?_
  refine lv_iload_n hx hb dX4_giveToWrite_17 rfl (lv_at hl 3 rfl) ?_
  refine lv_iconst (v := 4) hx hb dX4_giveToWrite_18 (by decide) ?_
  refine lv_imul hx hb dX4_giveToWrite_19 ?_
  refine lv_aload hx hb dX4_giveToWrite_20 (lv_at hl 0 rfl) ?_
  refine x_get (C := RX1) (T := TX1) (N := 7) (ci := 1) (a := 15) (k := r2) (v := .ref (ad (16, r2))) hx hb hts iw_X4_giveToWrite_X1 hown hK hP (in32 hC (a := 15) (by decide) hr3) rfl rfl 6 (by decide) (hts (.fieldLink RX4 173 "PageOwners$Letter" "words" "[J") (by decide +kernel)) (fun _ h9 => h9) rfl dX4_giveToWrite_22 ?_
  refine lv_iconst (v := 0) hx hb dX4_giveToWrite_25 (by decide) ?_
  refine lv_iconst (v := 4) hx hb dX4_giveToWrite_26 (by decide) ?_
  have q23 := h.1
  have h := h.2
  refine x_copy (a := 11) (k := k1) (b := 16) (h := r2) (n0 := 32) (n1 := 4) hx hb (hml.trans hl.1.symm) hown (hts (.methodLink RX4 221 arraycopyName) (by decide +kernel)) (hts (.native arraycopyName) (by decide +kernel)) (hts (.static arraycopyName) (by decide +kernel)) (hts (.initialized "java/lang/System") (by decide +kernel)) hK hP hAd hS (in6 hC (a := 11) (by decide) hk1) (in32 hC (a := 16) (by decide) hr3) (fun _ => rfl) (fun _ => rfl) q23.1 q23.2.1 q23.2.2.1 q23.2.2.2.1 q23.2.2.2.2 (Nat.le_of_ble_eq_true rfl) (by decide) dX4_giveToWrite_27 (fun H locs hP hS => ?_)
  obtain ⟨σ4, e5⟩ : ∃ z, z = sC σ1 11 k1 (ix (x2 * 4)) 16 r2 (ix 0) (ix 4) := ⟨_, rfl⟩
  rw [← e5] at hP
  have h := h σ4 e5
  refine lv_aload hx hb dX4_giveToWrite_30 (lv_at hl 0 rfl) ?_
  refine lv_aload_n hx hb dX4_giveToWrite_32 rfl (lv_at hl 2 rfl) ?_
  refine x_get (C := RX3) (T := TX3) (N := 10) (ci := 3) (a := 5) (k := k1) (v := .ref (ad (10, k1))) hx hb hts iw_X4_giveToWrite_X3 hown hK hP (in6 hC (a := 5) (by decide) hk1) rfl rfl 5 (by decide) (hts (.fieldLink RX4 147 "PageOwners$Node" "copySet" "[I") (by decide +kernel)) (fun _ h9 => h9) rfl dX4_giveToWrite_33 ?_
  refine lv_iload_n hx hb dX4_giveToWrite_36 rfl (lv_at hl 3 rfl) ?_
  have hin6 := h.1
  have h := h.2
  refine x_iald (a := 10) (k := k1) (n := 8) hx hb hK hP (in6 hC (a := 10) (by decide) hk1) (fun _ => rfl) hin6 dX4_giveToWrite_37 ?_
  refine x_puti (C := RX1) (T := TX1) (N := 7) (ci := 1) (a := 15) (k := r2) (v := (σ4.1 10 k1 (ix x2))) (ty := .int) hx hb hts iw_X4_giveToWrite_X1 tyX1 tyX1_ok nmX1 hown hK hP hAd hS (in32 hC (a := 15) (by decide) hr3) rfl rfl 5 (by decide) (hts (.fieldLink RX4 171 "PageOwners$Letter" "copySet" "I") (by decide +kernel)) (fun _ h9 => h9) rfl (by decide +kernel) rfl rfl (Nat.le_of_ble_eq_true rfl) rfl dX4_giveToWrite_38 (fun H locs hP hS => ?_)
  obtain ⟨σ7, e8⟩ : ∃ z, z = sI σ4 15 r2 5 (σ4.1 10 k1 (ix x2)) := ⟨_, rfl⟩
  rw [← e8] at hP
  have h := h σ7 e8
  refine lv_aload_n hx hb dX4_giveToWrite_41 rfl (lv_at hl 1 rfl) ?_
  refine x_get (C := RX4) (T := TX4) (N := 4) (ci := 4) (a := 0) (k := 0) (v := .ref (ad (2, 0))) hx hb hts iw_X4_giveToWrite_X4 hown hK hP (in1 hC (a := 0) (by decide) (by decide)) rfl rfl 2 (by decide) (hts (.fieldLink RX4 22 "PageOwners" "counts" "[I") (by decide +kernel)) (fun _ h9 => h9) rfl dX4_giveToWrite_42 ?_
  refine lv_iconst (v := 4) hx hb dX4_giveToWrite_45 (by decide) ?_
  refine lv_dup2_11 hx hb dX4_giveToWrite_46 rfl rfl ?_
  refine x_iald (a := 2) (k := 0) (n := 8) hx hb hK hP (in1 hC (a := 2) (by decide) (by decide)) (fun _ => rfl) (by unfold vp_in; decide) dX4_giveToWrite_47 ?_
  refine lv_iconst (v := 1) hx hb dX4_giveToWrite_48 (by decide) ?_
  refine lv_iadd hx hb dX4_giveToWrite_49 ?_
  refine x_iast (a := 2) (k := 0) (n := 8) hx hb hK hP hAd hS (in1 hC (a := 2) (by decide) (by decide)) (fun _ => rfl) (by unfold vp_in; decide) dX4_giveToWrite_50 (fun H locs hP hS => ?_)
  obtain ⟨σ9, e10⟩ : ∃ z, z = sI σ7 2 0 (ix 4) ((σ7.1 2 0 (ix 4)) + 1) := ⟨_, rfl⟩
  rw [← e10] at hP
  have h := h σ9 e10
  refine lv_aload_n hx hb dX4_giveToWrite_51 rfl (lv_at hl 2 rfl) ?_
  refine x_get (C := RX3) (T := TX3) (N := 10) (ci := 3) (a := 5) (k := k1) (v := .ref (ad (10, k1))) hx hb hts iw_X4_giveToWrite_X3 hown hK hP (in6 hC (a := 5) (by decide) hk1) rfl rfl 5 (by decide) (hts (.fieldLink RX4 147 "PageOwners$Node" "copySet" "[I") (by decide +kernel)) (fun _ h9 => h9) rfl dX4_giveToWrite_52 ?_
  refine lv_iload_n hx hb dX4_giveToWrite_55 rfl (lv_at hl 3 rfl) ?_
  refine lv_iconst (v := 0) hx hb dX4_giveToWrite_56 (by decide) ?_
  have hin13 := h.1
  have h := h.2
  refine x_iast (a := 10) (k := k1) (n := 8) hx hb hK hP hAd hS (in6 hC (a := 10) (by decide) hk1) (fun _ => rfl) hin13 dX4_giveToWrite_57 (fun H locs hP hS => ?_)
  obtain ⟨σ11, e12⟩ : ∃ z, z = sI σ9 10 k1 (ix x2) 0 := ⟨_, rfl⟩
  rw [← e12] at hP
  have h := h σ11 e12
  refine lv_aload_n hx hb dX4_giveToWrite_58 rfl (lv_at hl 2 rfl) ?_
  refine x_get (C := RX3) (T := TX3) (N := 10) (ci := 3) (a := 5) (k := k1) (v := .ref (ad (8, k1))) hx hb hts iw_X4_giveToWrite_X3 hown hK hP (in6 hC (a := 5) (by decide) hk1) rfl rfl 3 (by decide) (hts (.fieldLink RX4 61 "PageOwners$Node" "owns" "[Z") (by decide +kernel)) (fun _ h9 => h9) rfl dX4_giveToWrite_59 ?_
  refine lv_iload_n hx hb dX4_giveToWrite_62 rfl (lv_at hl 3 rfl) ?_
  refine lv_iconst (v := 0) hx hb dX4_giveToWrite_63 (by decide) ?_
  have hin16 := h.1
  have h := h.2
  refine x_zast (a := 8) (k := k1) (n := 8) hx hb hK hP hAd hS (in6 hC (a := 8) (by decide) hk1) (fun _ => rfl) hin16 (by decide) dX4_giveToWrite_64 (fun H locs hP hS => ?_)
  obtain ⟨σ14, e15⟩ : ∃ z, z = sI σ11 8 k1 (ix x2) 0 := ⟨_, rfl⟩
  rw [← e15] at hP
  have h := h σ14 e15
  refine lv_aload_n hx hb dX4_giveToWrite_65 rfl (lv_at hl 2 rfl) ?_
  refine x_get (C := RX3) (T := TX3) (N := 10) (ci := 3) (a := 5) (k := k1) (v := .ref (ad (7, k1))) hx hb hts iw_X4_giveToWrite_X3 hown hK hP (in6 hC (a := 5) (by decide) hk1) rfl rfl 2 (by decide) (hts (.fieldLink RX4 46 "PageOwners$Node" "accessTo" "[I") (by decide +kernel)) (fun _ h9 => h9) rfl dX4_giveToWrite_66 ?_
  refine lv_iload_n hx hb dX4_giveToWrite_69 rfl (lv_at hl 3 rfl) ?_
  refine lv_iconst (v := 0) hx hb dX4_giveToWrite_70 (by decide) ?_
  have hin19 := h.1
  have h := h.2
  refine x_iast (a := 7) (k := k1) (n := 8) hx hb hK hP hAd hS (in6 hC (a := 7) (by decide) hk1) (fun _ => rfl) hin19 dX4_giveToWrite_71 (fun H locs hP hS => ?_)
  obtain ⟨σ17, e18⟩ : ∃ z, z = sI σ14 7 k1 (ix x2) 0 := ⟨_, rfl⟩
  rw [← e18] at hP
  have h := h σ17 e18
  refine lv_aload_n hx hb dX4_giveToWrite_72 rfl (lv_at hl 2 rfl) ?_
  refine x_get (C := RX3) (T := TX3) (N := 10) (ci := 3) (a := 5) (k := k1) (v := .ref (ad (9, k1))) hx hb hts iw_X4_giveToWrite_X3 hown hK hP (in6 hC (a := 5) (by decide) hk1) rfl rfl 4 (by decide) (hts (.fieldLink RX4 144 "PageOwners$Node" "guessOf" "[I") (by decide +kernel)) (fun _ h9 => h9) rfl dX4_giveToWrite_73 ?_
  refine lv_iload_n hx hb dX4_giveToWrite_76 rfl (lv_at hl 3 rfl) ?_
  refine lv_iload_n hx hb dX4_giveToWrite_77 rfl (lv_at hl 4 rfl) ?_
  have hin22 := h.1
  have h := h.2
  refine x_iast (a := 9) (k := k1) (n := 8) hx hb hK hP hAd hS (in6 hC (a := 9) (by decide) hk1) (fun _ => rfl) hin22 dX4_giveToWrite_78 (fun H locs hP hS => ?_)
  obtain ⟨σ20, e21⟩ : ∃ z, z = sI σ17 9 k1 (ix x2) x3 := ⟨_, rfl⟩
  rw [← e21] at hP
  have h := h σ20 e21
  exact W.vret hx hb hr (fun t ht hW => ⟨⟨σ20, rfl, h, by rw [ht]; exact hP, va_K.moved hW.alike hK⟩, hS.F ht⟩) hS.2.2 dX4_giveToWrite_79
theorem iw_X4_askingComes_X3 : ∀ w ∈ wsX30, w ∈ wsX4_askingComes := fun _ h => List.mem_cons_of_mem _ (List.mem_append_left _ (List.mem_append_left _ (List.mem_append_left _ (List.mem_append_left _ (List.mem_append_right _ h)))))
def wp_X4_askingComes (σ : Sg) (k1 : Nat) (x2 : Int32) (x3 : Int32) (x4 : Int32) (Q : Sg → Prop) : Prop := (wp_X0_awaits σ k1 2 x3 (fun σ1 r2 => ((r2 = 0 → (wp_X0_awaits σ1 k1 3 x3 (fun σ5 r6 => ((r6 = 0 → (vp_in x3 8 ∧ (((σ5.1 8 k1 (ix x3)) = 0 → (wp_X4_sendOn σ5 k1 x2 x3 x4 (fun σ11 => Q σ11))) ∧ (¬ ((σ5.1 8 k1 (ix x3)) = 0) → ((x2 = 1 → (wp_X4_giveToRead σ5 k1 x3 x4 (fun σ15 => Q σ15))) ∧ (¬ (x2 = 1) → (wp_X4_giveToWrite σ5 k1 x3 x4 (fun σ18 => Q σ18)))))))) ∧ (¬ (r6 = 0) → (wp_X3_putInQueue σ5 k1 x2 x3 x4 (fun σ21 => Q σ21))))))) ∧ (¬ (r2 = 0) → (wp_X3_putInQueue σ1 k1 x2 x3 x4 (fun σ24 => Q σ24))))))
abbrev rm_X4_askingComes : Room := { frames := 4, cells := 0, slots := 0, locals := 87 }
set_option maxHeartbeats 4000000 in
set_option maxRecDepth 100000 in
theorem c_X4_askingComes (l : Launch) {D : va_G} {P : List (Nat × Nat)} {ad : Nat × Nat → Nat} {cy : Nat → ClassId} (hAd : AdOk P ad) (hC : InC P) (σ : Sg) (k1 : Nat) (hk1 : k1 < 6) (x2 : Int32) (x3 : Int32) (x4 : Int32) (Q : Sg → Prop) (h : wp_X4_askingComes σ k1 x2 x3 x4 Q) : Met l yX4_askingComes wsX4_askingComes rm_X4_askingComes (xPc D P ad cy σ [.ref (ad (0, 0)), .ref (ad (5, k1)), .int x2, .int x3, .int x4]) (va_Qv Q (xB D P ad cy) (Aof P ad)) 0 0 (Aof P ad) := by
  refine Met.ofW (cc := cX4_askingComes) (maxL := 5) (ret := none) (by decide +kernel) rfl ?_
  intro p e s m args below meth c s₁ B hml hv
  obtain ⟨rfl, hP, hK⟩ := hv
  have hx := B.exec
  have hb := B.bytes
  have hr := B.returns
  have hts := atoms_spec (ws := wsX4_askingComes) B.pre
  have hown : s.vm.findClass RX4 = some m.cls := findClass_of_methodNamed B.named
  have hlocks := B.notSynchronized
  have hS : va_S (Aof P ad) s.heap s.heap [] := va_S.rf
  have hl := lv_entry ([.ref (ad (0, 0)), .ref (ad (5, k1)), .int x2, .int x3, .int x4] : List Value) (n := 5) (Nat.le_of_ble_eq_true rfl)
  rw [lg_entry_eq]
  generalize (lg_sl ([.ref (ad (0, 0)), .ref (ad (5, k1)), .int x2, .int x3, .int x4] : List Value) ++ List.replicate (5 - (lg_sl ([.ref (ad (0, 0)), .ref (ad (5, k1)), .int x2, .int x3, .int x4] : List Value)).length) Slot.unset).toArray = ls at hl ⊢
  have hl : lv_has ls 5 [(0, .ref (ad (0, 0))), (1, .ref (ad (5, k1))), (2, .int x2), (3, .int x3), (4, .int x4)] := hl
  unfold wp_X4_askingComes at h
  refine lv_aload_n hx hb dX4_askingComes_0 rfl (lv_at hl 1 rfl) ?_
  refine x_get (C := RX3) (T := TX3) (N := 10) (ci := 3) (a := 5) (k := k1) (v := .ref (ad (6, k1))) hx hb hts iw_X4_askingComes_X3 hown hK hP (in6 hC (a := 5) (by decide) hk1) rfl rfl 1 (by decide) (hts (.fieldLink RX4 36 "PageOwners$Node" "hand" "LPageOwners$Hand;") (by decide +kernel)) (fun _ h9 => h9) rfl dX4_askingComes_1 ?_
  refine lv_iconst (v := 2) hx hb dX4_askingComes_4 (by decide) ?_
  refine lv_iload_n hx hb dX4_askingComes_5 rfl (lv_at hl 3 rfl) ?_
  refine x_cVi (C := RX0) (As := [.int 2, .int x3]) (rest := []) ⟨hx, hb, hml, hown, hts⟩ hK hP hS (c_X0_awaits l hAd hC σ k1 hk1 2 x3 _ h) (cwV 2 hts gX4_askingComes_X0_awaits rfl rfl rfl (by decide +kernel) ⟨Nat.le_of_ble_eq_true rfl, Nat.le_of_ble_eq_true rfl⟩) (x_recv hK hP (in6 hC (a := 6) (by decide) hk1) rfl rfl) rfl hl.1 rfl (Nat.le_of_ble_eq_true rfl) dX4_askingComes_6 ⟨Nat.zero_le _, Nat.zero_le _⟩ (fun r2 σ1 H locs h hP hS => ?_)
  refine lv_if_ne (tgt := 24) hx hb dX4_askingComes_9 (by decide) (fun c4 => ?_) (fun c4 => ?_)
  · have h := h.2 c4
    refine lv_aload_n hx hb dX4_askingComes_24 rfl (lv_at hl 1 rfl) ?_
    refine lv_iload_n hx hb dX4_askingComes_25 rfl (lv_at hl 2 rfl) ?_
    refine lv_iload_n hx hb dX4_askingComes_26 rfl (lv_at hl 3 rfl) ?_
    refine lv_iload hx hb dX4_askingComes_27 (lv_at hl 4 rfl) ?_
    refine x_cVv (C := RX3) (As := [.int x2, .int x3, .int x4]) (rest := []) ⟨hx, hb, hml, hown, hts⟩ hK hP hS (c_X3_putInQueue l hAd hC σ1 k1 hk1 x2 x3 x4 _ h) (cwV 3 hts gX4_askingComes_X3_putInQueue rfl rfl rfl (by decide +kernel) ⟨Nat.le_of_ble_eq_true rfl, Nat.le_of_ble_eq_true rfl⟩) (x_recv hK hP (in6 hC (a := 5) (by decide) hk1) rfl rfl) rfl hl.1 rfl (Nat.le_of_ble_eq_true rfl) dX4_askingComes_29 ⟨Nat.zero_le _, Nat.zero_le _⟩ (fun σ24 H locs h hP hS => ?_)
    refine lv_goto (tgt := 80) hx hb dX4_askingComes_32 (by decide) ?_
    exact W.vret hx hb hr (fun t ht hW => ⟨⟨σ24, rfl, h, by rw [ht]; exact hP, va_K.moved hW.alike hK⟩, hS.F ht⟩) hS.2.2 dX4_askingComes_80
  · have h := h.1 c4
    refine lv_aload_n hx hb dX4_askingComes_12 rfl (lv_at hl 1 rfl) ?_
    refine x_get (C := RX3) (T := TX3) (N := 10) (ci := 3) (a := 5) (k := k1) (v := .ref (ad (6, k1))) hx hb hts iw_X4_askingComes_X3 hown hK hP (in6 hC (a := 5) (by decide) hk1) rfl rfl 1 (by decide) (hts (.fieldLink RX4 36 "PageOwners$Node" "hand" "LPageOwners$Hand;") (by decide +kernel)) (fun _ h9 => h9) rfl dX4_askingComes_13 ?_
    refine lv_iconst (v := 3) hx hb dX4_askingComes_16 (by decide) ?_
    refine lv_iload_n hx hb dX4_askingComes_17 rfl (lv_at hl 3 rfl) ?_
    refine x_cVi (C := RX0) (As := [.int 3, .int x3]) (rest := []) ⟨hx, hb, hml, hown, hts⟩ hK hP hS (c_X0_awaits l hAd hC σ1 k1 hk1 3 x3 _ h) (cwV 2 hts gX4_askingComes_X0_awaits rfl rfl rfl (by decide +kernel) ⟨Nat.le_of_ble_eq_true rfl, Nat.le_of_ble_eq_true rfl⟩) (x_recv hK hP (in6 hC (a := 6) (by decide) hk1) rfl rfl) rfl hl.1 rfl (Nat.le_of_ble_eq_true rfl) dX4_askingComes_18 ⟨Nat.zero_le _, Nat.zero_le _⟩ (fun r6 σ5 H locs h hP hS => ?_)
    refine lv_if_eq (tgt := 35) hx hb dX4_askingComes_21 (by decide) (fun c8 => ?_) (fun c8 => ?_)
    · have h := h.1 c8
      refine lv_aload_n hx hb dX4_askingComes_35 rfl (lv_at hl 1 rfl) ?_
      refine x_get (C := RX3) (T := TX3) (N := 10) (ci := 3) (a := 5) (k := k1) (v := .ref (ad (8, k1))) hx hb hts iw_X4_askingComes_X3 hown hK hP (in6 hC (a := 5) (by decide) hk1) rfl rfl 3 (by decide) (hts (.fieldLink RX4 61 "PageOwners$Node" "owns" "[Z") (by decide +kernel)) (fun _ h9 => h9) rfl dX4_askingComes_36 ?_
      refine lv_iload_n hx hb dX4_askingComes_39 rfl (lv_at hl 3 rfl) ?_
      have hin9 := h.1
      have h := h.2
      refine x_zald (a := 8) (k := k1) (n := 8) hx hb hK hP (in6 hC (a := 8) (by decide) hk1) (fun _ => rfl) hin9 dX4_askingComes_40 ?_
      refine lv_if_ne (tgt := 56) hx hb dX4_askingComes_41 (by decide) (fun c10 => ?_) (fun c10 => ?_)
      · have h := h.2 c10
        refine lv_iload_n hx hb dX4_askingComes_56 rfl (lv_at hl 2 rfl) ?_
        refine lv_iconst (v := 1) hx hb dX4_askingComes_57 (by decide) ?_
        refine lv_icmp_ne (tgt := 72) hx hb dX4_askingComes_58 (by decide) (fun c14 => ?_) (fun c14 => ?_)
        · have h := h.2 c14
          refine lv_aload_n hx hb dX4_askingComes_72 rfl (lv_at hl 0 rfl) ?_
          refine lv_aload_n hx hb dX4_askingComes_73 rfl (lv_at hl 1 rfl) ?_
          refine lv_iload_n hx hb dX4_askingComes_74 rfl (lv_at hl 3 rfl) ?_
          refine lv_iload hx hb dX4_askingComes_75 (lv_at hl 4 rfl) ?_
          refine x_cVv (C := RX4) (As := [.ref (ad (5, k1)), .int x3, .int x4]) (rest := []) ⟨hx, hb, hml, hown, hts⟩ hK hP hS (c_X4_giveToWrite l hAd hC σ5 k1 hk1 x3 x4 _ h) (cwV 3 hts gX4_askingComes_X4_giveToWrite rfl rfl rfl (by decide +kernel) ⟨Nat.le_of_ble_eq_true rfl, Nat.le_of_ble_eq_true rfl⟩) (x_recv hK hP (in1 hC (a := 0) (by decide) (by decide)) rfl rfl) rfl hl.1 rfl (Nat.le_of_ble_eq_true rfl) dX4_askingComes_77 ⟨Nat.zero_le _, Nat.zero_le _⟩ (fun σ18 H locs h hP hS => ?_)
          exact W.vret hx hb hr (fun t ht hW => ⟨⟨σ18, rfl, h, by rw [ht]; exact hP, va_K.moved hW.alike hK⟩, hS.F ht⟩) hS.2.2 dX4_askingComes_80
        · have h := h.1 c14
          refine lv_aload_n hx hb dX4_askingComes_61 rfl (lv_at hl 0 rfl) ?_
          refine lv_aload_n hx hb dX4_askingComes_62 rfl (lv_at hl 1 rfl) ?_
          refine lv_iload_n hx hb dX4_askingComes_63 rfl (lv_at hl 3 rfl) ?_
          refine lv_iload hx hb dX4_askingComes_64 (lv_at hl 4 rfl) ?_
          refine x_cVv (C := RX4) (As := [.ref (ad (5, k1)), .int x3, .int x4]) (rest := []) ⟨hx, hb, hml, hown, hts⟩ hK hP hS (c_X4_giveToRead l hAd hC σ5 k1 hk1 x3 x4 _ h) (cwV 3 hts gX4_askingComes_X4_giveToRead rfl rfl rfl (by decide +kernel) ⟨Nat.le_of_ble_eq_true rfl, Nat.le_of_ble_eq_true rfl⟩) (x_recv hK hP (in1 hC (a := 0) (by decide) (by decide)) rfl rfl) rfl hl.1 rfl (Nat.le_of_ble_eq_true rfl) dX4_askingComes_66 ⟨Nat.zero_le _, Nat.zero_le _⟩ (fun σ15 H locs h hP hS => ?_)
          refine lv_goto (tgt := 80) hx hb dX4_askingComes_69 (by decide) ?_
          exact W.vret hx hb hr (fun t ht hW => ⟨⟨σ15, rfl, h, by rw [ht]; exact hP, va_K.moved hW.alike hK⟩, hS.F ht⟩) hS.2.2 dX4_askingComes_80
      · have h := h.1 c10
        refine lv_aload_n hx hb dX4_askingComes_44 rfl (lv_at hl 0 rfl) ?_
        refine lv_aload_n hx hb dX4_askingComes_45 rfl (lv_at hl 1 rfl) ?_
        refine lv_iload_n hx hb dX4_askingComes_46 rfl (lv_at hl 2 rfl) ?_
        refine lv_iload_n hx hb dX4_askingComes_47 rfl (lv_at hl 3 rfl) ?_
        refine lv_iload hx hb dX4_askingComes_48 (lv_at hl 4 rfl) ?_
        refine x_cVv (C := RX4) (As := [.ref (ad (5, k1)), .int x2, .int x3, .int x4]) (rest := []) ⟨hx, hb, hml, hown, hts⟩ hK hP hS (c_X4_sendOn l hAd hC σ5 k1 hk1 x2 x3 x4 _ h) (cwV 4 hts gX4_askingComes_X4_sendOn rfl rfl rfl (by decide +kernel) ⟨Nat.le_of_ble_eq_true rfl, Nat.le_of_ble_eq_true rfl⟩) (x_recv hK hP (in1 hC (a := 0) (by decide) (by decide)) rfl rfl) rfl hl.1 rfl (Nat.le_of_ble_eq_true rfl) dX4_askingComes_50 ⟨Nat.zero_le _, Nat.zero_le _⟩ (fun σ11 H locs h hP hS => ?_)
        refine lv_goto (tgt := 80) hx hb dX4_askingComes_53 (by decide) ?_
        exact W.vret hx hb hr (fun t ht hW => ⟨⟨σ11, rfl, h, by rw [ht]; exact hP, va_K.moved hW.alike hK⟩, hS.F ht⟩) hS.2.2 dX4_askingComes_80
    · have h := h.2 c8
      refine lv_aload_n hx hb dX4_askingComes_24 rfl (lv_at hl 1 rfl) ?_
      refine lv_iload_n hx hb dX4_askingComes_25 rfl (lv_at hl 2 rfl) ?_
      refine lv_iload_n hx hb dX4_askingComes_26 rfl (lv_at hl 3 rfl) ?_
      refine lv_iload hx hb dX4_askingComes_27 (lv_at hl 4 rfl) ?_
      refine x_cVv (C := RX3) (As := [.int x2, .int x3, .int x4]) (rest := []) ⟨hx, hb, hml, hown, hts⟩ hK hP hS (c_X3_putInQueue l hAd hC σ5 k1 hk1 x2 x3 x4 _ h) (cwV 3 hts gX4_askingComes_X3_putInQueue rfl rfl rfl (by decide +kernel) ⟨Nat.le_of_ble_eq_true rfl, Nat.le_of_ble_eq_true rfl⟩) (x_recv hK hP (in6 hC (a := 5) (by decide) hk1) rfl rfl) rfl hl.1 rfl (Nat.le_of_ble_eq_true rfl) dX4_askingComes_29 ⟨Nat.zero_le _, Nat.zero_le _⟩ (fun σ21 H locs h hP hS => ?_)
      refine lv_goto (tgt := 80) hx hb dX4_askingComes_32 (by decide) ?_
      exact W.vret hx hb hr (fun t ht hW => ⟨⟨σ21, rfl, h, by rw [ht]; exact hP, va_K.moved hW.alike hK⟩, hS.F ht⟩) hS.2.2 dX4_askingComes_80
theorem iw_X4_goOverQueue_X3 : ∀ w ∈ wsX30, w ∈ wsX4_goOverQueue := fun _ h => List.mem_cons_of_mem _ (List.mem_append_left _ (List.mem_append_left _ (List.mem_append_left _ (List.mem_append_left _ (List.mem_append_right _ h)))))
def lp_X4_goOverQueue_24 (k1 : Nat) (x2 : Int32) (Q : Sg → Prop) : Nat → Sg → Int32 → Int32 → Int32 → Prop
  | 0, _, _, _, _ => False
  | n + 1, σ, y3, y4, y5 => (((y4 + y3) ≤ y5 → Q σ) ∧ (¬ ((y4 + y3) ≤ y5) → (vp_in y5 48 ∧ (vp_in y5 48 ∧ (wp_X4_askingComes σ k1 (σ.1 13 k1 (ix y5)) x2 (σ.1 14 k1 (ix y5)) (fun σ8 => lp_X4_goOverQueue_24 k1 x2 Q n σ8 y3 y4 (y5 + 1)))))))
def wp_X4_goOverQueue (σ : Sg) (k1 : Nat) (x2 : Int32) (Q : Sg → Prop) : Prop := (vp_in x2 8 ∧ (vp_in x2 8 ∧ (∀ σ2, σ2 = sI σ 12 k1 (ix x2) 0 → (∃ n11, lp_X4_goOverQueue_24 k1 x2 Q n11 σ2 (σ.1 12 k1 (ix x2)) (x2 * 6) (x2 * 6)))))
abbrev rm_X4_goOverQueue : Room := { frames := 5, cells := 0, slots := 0, locals := 111 }
set_option maxHeartbeats 4000000 in
set_option maxRecDepth 100000 in
theorem c_X4_goOverQueue (l : Launch) {D : va_G} {P : List (Nat × Nat)} {ad : Nat × Nat → Nat} {cy : Nat → ClassId} (hAd : AdOk P ad) (hC : InC P) (σ : Sg) (k1 : Nat) (hk1 : k1 < 6) (x2 : Int32) (Q : Sg → Prop) (h : wp_X4_goOverQueue σ k1 x2 Q) : Met l yX4_goOverQueue wsX4_goOverQueue rm_X4_goOverQueue (xPc D P ad cy σ [.ref (ad (0, 0)), .ref (ad (5, k1)), .int x2]) (va_Qv Q (xB D P ad cy) (Aof P ad)) 0 0 (Aof P ad) := by
  refine Met.ofW (cc := cX4_goOverQueue) (maxL := 6) (ret := none) (by decide +kernel) rfl ?_
  intro p e s m args below meth c s₁ B hml hv
  obtain ⟨rfl, hP, hK⟩ := hv
  have hx := B.exec
  have hb := B.bytes
  have hr := B.returns
  have hts := atoms_spec (ws := wsX4_goOverQueue) B.pre
  have hown : s.vm.findClass RX4 = some m.cls := findClass_of_methodNamed B.named
  have hlocks := B.notSynchronized
  have hS : va_S (Aof P ad) s.heap s.heap [] := va_S.rf
  have hl := lv_entry ([.ref (ad (0, 0)), .ref (ad (5, k1)), .int x2] : List Value) (n := 6) (Nat.le_of_ble_eq_true rfl)
  rw [lg_entry_eq]
  generalize (lg_sl ([.ref (ad (0, 0)), .ref (ad (5, k1)), .int x2] : List Value) ++ List.replicate (6 - (lg_sl ([.ref (ad (0, 0)), .ref (ad (5, k1)), .int x2] : List Value)).length) Slot.unset).toArray = ls at hl ⊢
  have hl : lv_has ls 6 [(0, .ref (ad (0, 0))), (1, .ref (ad (5, k1))), (2, .int x2)] := hl
  have L24 : ∀ (n : Nat) (σ : Sg) (y3 : Int32) (y4 : Int32) (y5 : Int32) (H : Heap) (locs : List Loc) (ls : Array Slot), lp_X4_goOverQueue_24 k1 x2 Q n σ y3 y4 y5 → Wo D P ad cy σ H → va_S (Aof P ad) s.heap H locs → lv_has ls 6 [(0, .ref (ad (0, 0))), (1, .ref (ad (5, k1))), (2, .int x2), (3, .int y3), (4, .int y4), (5, .int y5)] → W p l e (headSpec wsX4_goOverQueue rm_X4_goOverQueue).room s m ([.ref (ad (0, 0)), .ref (ad (5, k1)), .int x2] : List Value).toArray below meth c H locs 0 0 (MQ below (va_Qv Q (xB D P ad cy) (Aof P ad)) ([.ref (ad (0, 0)), .ref (ad (5, k1)), .int x2] : List Value).toArray s 0 0 (Aof P ad)) (F0 m 24 ls []) := by
    intro n
    induction n with
    | zero =>
      intro σ y3 y4 y5 H locs ls h
      exact h.elim
    | succ n ih =>
      intro σ y3 y4 y5 H locs ls h hP hS hl
      rw [lp_X4_goOverQueue_24] at h
      refine lv_iload hx hb dX4_goOverQueue_24 (lv_at hl 5 rfl) ?_
      refine lv_iload hx hb dX4_goOverQueue_26 (lv_at hl 4 rfl) ?_
      refine lv_iload_n hx hb dX4_goOverQueue_28 rfl (lv_at hl 3 rfl) ?_
      refine lv_iadd hx hb dX4_goOverQueue_29 ?_
      refine lv_icmp_ge (tgt := 59) hx hb dX4_goOverQueue_30 (by decide) (fun c5 => ?_) (fun c5 => ?_)
      · have h := h.1 c5
        exact W.vret hx hb hr (fun t ht hW => ⟨⟨σ, rfl, h, by rw [ht]; exact hP, va_K.moved hW.alike hK⟩, hS.F ht⟩) hS.2.2 dX4_goOverQueue_59
      · have h := h.2 c5
        refine lv_aload_n hx hb dX4_goOverQueue_33 rfl (lv_at hl 0 rfl) ?_
        refine lv_aload_n hx hb dX4_goOverQueue_34 rfl (lv_at hl 1 rfl) ?_
        refine lv_aload_n hx hb dX4_goOverQueue_35 rfl (lv_at hl 1 rfl) ?_
        refine x_get (C := RX3) (T := TX3) (N := 10) (ci := 3) (a := 5) (k := k1) (v := .ref (ad (13, k1))) hx hb hts iw_X4_goOverQueue_X3 hown hK hP (in6 hC (a := 5) (by decide) hk1) rfl rfl 8 (by decide) (hts (.fieldLink RX4 198 "PageOwners$Node" "queuedKinds" "[I") (by decide +kernel)) (fun _ h9 => h9) rfl dX4_goOverQueue_36 ?_
        refine lv_iload hx hb dX4_goOverQueue_39 (lv_at hl 5 rfl) ?_
        have hin6 := h.1
        have h := h.2
        refine x_iald (a := 13) (k := k1) (n := 48) hx hb hK hP (in6 hC (a := 13) (by decide) hk1) (fun _ => rfl) hin6 dX4_goOverQueue_41 ?_
        refine lv_iload_n hx hb dX4_goOverQueue_42 rfl (lv_at hl 2 rfl) ?_
        refine lv_aload_n hx hb dX4_goOverQueue_43 rfl (lv_at hl 1 rfl) ?_
        refine x_get (C := RX3) (T := TX3) (N := 10) (ci := 3) (a := 5) (k := k1) (v := .ref (ad (14, k1))) hx hb hts iw_X4_goOverQueue_X3 hown hK hP (in6 hC (a := 5) (by decide) hk1) rfl rfl 9 (by decide) (hts (.fieldLink RX4 201 "PageOwners$Node" "queuedAskers" "[I") (by decide +kernel)) (fun _ h9 => h9) rfl dX4_goOverQueue_44 ?_
        refine lv_iload hx hb dX4_goOverQueue_47 (lv_at hl 5 rfl) ?_
        have hin7 := h.1
        have h := h.2
        refine x_iald (a := 14) (k := k1) (n := 48) hx hb hK hP (in6 hC (a := 14) (by decide) hk1) (fun _ => rfl) hin7 dX4_goOverQueue_49 ?_
        refine x_cVv (C := RX4) (As := [.ref (ad (5, k1)), .int (σ.1 13 k1 (ix y5)), .int x2, .int (σ.1 14 k1 (ix y5))]) (rest := []) ⟨hx, hb, hml, hown, hts⟩ hK hP hS (c_X4_askingComes l hAd hC σ k1 hk1 (σ.1 13 k1 (ix y5)) x2 (σ.1 14 k1 (ix y5)) _ h) (cwV 4 hts gX4_goOverQueue_X4_askingComes rfl rfl rfl (by decide +kernel) ⟨Nat.le_of_ble_eq_true rfl, Nat.le_of_ble_eq_true rfl⟩) (x_recv hK hP (in1 hC (a := 0) (by decide) (by decide)) rfl rfl) rfl hl.1 rfl (Nat.le_of_ble_eq_true rfl) dX4_goOverQueue_50 ⟨Nat.zero_le _, Nat.zero_le _⟩ (fun σ8 H locs h hP hS => ?_)
        refine lv_iinc (v := (y5 + 1)) (lv' := [(5, .int (y5 + 1)), (0, .ref (ad (0, 0))), (1, .ref (ad (5, k1))), (2, .int x2), (3, .int y3), (4, .int y4)]) hx hb dX4_goOverQueue_53 hl (k := 5) rfl rfl (by decide) rfl (fun ls hl => ?_)
        refine lv_goto (tgt := 24) hx hb dX4_goOverQueue_56 (by decide) ?_
        exact ih σ8 y3 y4 (y5 + 1) _ _ _ h hP hS (lv_sub hl [1, 2, 3, 4, 5, 0] rfl)
  unfold wp_X4_goOverQueue at h
  refine lv_aload_n hx hb dX4_goOverQueue_0 rfl (lv_at hl 1 rfl) ?_
  refine x_get (C := RX3) (T := TX3) (N := 10) (ci := 3) (a := 5) (k := k1) (v := .ref (ad (12, k1))) hx hb hts iw_X4_goOverQueue_X3 hown hK hP (in6 hC (a := 5) (by decide) hk1) rfl rfl 7 (by decide) (hts (.fieldLink RX4 157 "PageOwners$Node" "queued" "[I") (by decide +kernel)) (fun _ h9 => h9) rfl dX4_goOverQueue_1 ?_
  refine lv_iload_n hx hb dX4_goOverQueue_4 rfl (lv_at hl 2 rfl) ?_
  have hin1 := h.1
  have h := h.2
  refine x_iald (a := 12) (k := k1) (n := 8) hx hb hK hP (in6 hC (a := 12) (by decide) hk1) (fun _ => rfl) hin1 dX4_goOverQueue_5 ?_
  refine lv_istore_n (lv' := [(3, .int (σ.1 12 k1 (ix x2))), (0, .ref (ad (0, 0))), (1, .ref (ad (5, k1))), (2, .int x2)]) hx hb dX4_goOverQueue_6 rfl hl (by decide) rfl (fun ls hl => ?_)
  refine lv_aload_n hx hb dX4_goOverQueue_7 rfl (lv_at hl 2 rfl) ?_
  refine x_get (C := RX3) (T := TX3) (N := 10) (ci := 3) (a := 5) (k := k1) (v := .ref (ad (12, k1))) hx hb hts iw_X4_goOverQueue_X3 hown hK hP (in6 hC (a := 5) (by decide) hk1) rfl rfl 7 (by decide) (hts (.fieldLink RX4 157 "PageOwners$Node" "queued" "[I") (by decide +kernel)) (fun _ h9 => h9) rfl dX4_goOverQueue_8 ?_
  refine lv_iload_n hx hb dX4_goOverQueue_11 rfl (lv_at hl 3 rfl) ?_
  refine lv_iconst (v := 0) hx hb dX4_goOverQueue_12 (by decide) ?_
  have hin4 := h.1
  have h := h.2
  refine x_iast (a := 12) (k := k1) (n := 8) hx hb hK hP hAd hS (in6 hC (a := 12) (by decide) hk1) (fun _ => rfl) hin4 dX4_goOverQueue_13 (fun H locs hP hS => ?_)
  obtain ⟨σ2, e3⟩ : ∃ z, z = sI σ 12 k1 (ix x2) 0 := ⟨_, rfl⟩
  rw [← e3] at hP
  have h := h σ2 e3
  refine lv_iload_n hx hb dX4_goOverQueue_14 rfl (lv_at hl 3 rfl) ?_
  refine lv_bipush (v := 6) hx hb dX4_goOverQueue_15 (by decide) ?_
  refine lv_imul hx hb dX4_goOverQueue_17 ?_
  refine lv_istore (lv' := [(4, .int (x2 * 6)), (3, .int (σ.1 12 k1 (ix x2))), (0, .ref (ad (0, 0))), (1, .ref (ad (5, k1))), (2, .int x2)]) hx hb dX4_goOverQueue_18 hl (by decide) rfl (fun ls hl => ?_)
  refine lv_iload hx hb dX4_goOverQueue_20 (lv_at hl 0 rfl) ?_
  refine lv_istore (lv' := [(5, .int (x2 * 6)), (4, .int (x2 * 6)), (3, .int (σ.1 12 k1 (ix x2))), (0, .ref (ad (0, 0))), (1, .ref (ad (5, k1))), (2, .int x2)]) hx hb dX4_goOverQueue_22 hl (by decide) rfl (fun ls hl => ?_)
  obtain ⟨n11, h⟩ := h
  exact L24 n11 σ2 (σ.1 12 k1 (ix x2)) (x2 * 6) (x2 * 6) _ _ _ h hP hS (lv_sub hl [3, 4, 5, 2, 1, 0] rfl)
theorem iw_X4_finishIfAllAnswered_X0 : ∀ w ∈ wsX00, w ∈ wsX4_finishIfAllAnswered := fun _ h => List.mem_cons_of_mem _ (List.mem_append_left _ (List.mem_append_left _ (List.mem_append_left _ (List.mem_append_right _ h))))
theorem iw_X4_finishIfAllAnswered_X3 : ∀ w ∈ wsX30, w ∈ wsX4_finishIfAllAnswered := fun _ h => List.mem_cons_of_mem _ (List.mem_append_left _ (List.mem_append_left _ (List.mem_append_left _ (List.mem_append_left _ (List.mem_append_right _ h)))))
def wp_X4_finishIfAllAnswered (σ : Sg) (k1 : Nat) (Q : Sg → Prop) : Prop := (((σ.1 6 k1 1) = 3 → (((σ.1 6 k1 6) ≤ 0 → (vp_in (σ.1 6 k1 2) 8 ∧ (∀ σ3, σ3 = sI σ 7 k1 (ix (σ.1 6 k1 2)) 2 → (wp_X4_finish σ3 k1 (fun σ6 => (wp_X4_goOverQueue σ6 k1 (σ.1 6 k1 2) (fun σ9 => Q σ9))))))) ∧ (¬ ((σ.1 6 k1 6) ≤ 0) → Q σ))) ∧ (¬ ((σ.1 6 k1 1) = 3) → Q σ))
abbrev rm_X4_finishIfAllAnswered : Room := { frames := 6, cells := 0, slots := 0, locals := 136 }
set_option maxHeartbeats 4000000 in
set_option maxRecDepth 100000 in
theorem c_X4_finishIfAllAnswered (l : Launch) {D : va_G} {P : List (Nat × Nat)} {ad : Nat × Nat → Nat} {cy : Nat → ClassId} (hAd : AdOk P ad) (hC : InC P) (σ : Sg) (k1 : Nat) (hk1 : k1 < 6) (Q : Sg → Prop) (h : wp_X4_finishIfAllAnswered σ k1 Q) : Met l yX4_finishIfAllAnswered wsX4_finishIfAllAnswered rm_X4_finishIfAllAnswered (xPc D P ad cy σ [.ref (ad (0, 0)), .ref (ad (5, k1))]) (va_Qv Q (xB D P ad cy) (Aof P ad)) 0 0 (Aof P ad) := by
  refine Met.ofW (cc := cX4_finishIfAllAnswered) (maxL := 3) (ret := none) (by decide +kernel) rfl ?_
  intro p e s m args below meth c s₁ B hml hv
  obtain ⟨rfl, hP, hK⟩ := hv
  have hx := B.exec
  have hb := B.bytes
  have hr := B.returns
  have hts := atoms_spec (ws := wsX4_finishIfAllAnswered) B.pre
  have hown : s.vm.findClass RX4 = some m.cls := findClass_of_methodNamed B.named
  have hlocks := B.notSynchronized
  have hS : va_S (Aof P ad) s.heap s.heap [] := va_S.rf
  have hl := lv_entry ([.ref (ad (0, 0)), .ref (ad (5, k1))] : List Value) (n := 3) (Nat.le_of_ble_eq_true rfl)
  rw [lg_entry_eq]
  generalize (lg_sl ([.ref (ad (0, 0)), .ref (ad (5, k1))] : List Value) ++ List.replicate (3 - (lg_sl ([.ref (ad (0, 0)), .ref (ad (5, k1))] : List Value)).length) Slot.unset).toArray = ls at hl ⊢
  have hl : lv_has ls 3 [(0, .ref (ad (0, 0))), (1, .ref (ad (5, k1)))] := hl
  unfold wp_X4_finishIfAllAnswered at h
  refine lv_aload_n hx hb dX4_finishIfAllAnswered_0 rfl (lv_at hl 1 rfl) ?_
  refine x_get (C := RX3) (T := TX3) (N := 10) (ci := 3) (a := 5) (k := k1) (v := .ref (ad (6, k1))) hx hb hts iw_X4_finishIfAllAnswered_X3 hown hK hP (in6 hC (a := 5) (by decide) hk1) rfl rfl 1 (by decide) (hts (.fieldLink RX4 36 "PageOwners$Node" "hand" "LPageOwners$Hand;") (by decide +kernel)) (fun _ h9 => h9) rfl dX4_finishIfAllAnswered_1 ?_
  refine x_get (C := RX0) (T := TX0) (N := 10) (ci := 0) (a := 6) (k := k1) (v := .int (σ.1 6 k1 1)) hx hb hts iw_X4_finishIfAllAnswered_X0 hown hK hP (in6 hC (a := 6) (by decide) hk1) rfl rfl 1 (by decide) (hts (.fieldLink RX4 117 "PageOwners$Hand" "waitsFor" "I") (by decide +kernel)) (fun _ h9 => h9) rfl dX4_finishIfAllAnswered_4 ?_
  refine lv_iconst (v := 3) hx hb dX4_finishIfAllAnswered_7 (by decide) ?_
  refine lv_icmp_ne (tgt := 21) hx hb dX4_finishIfAllAnswered_8 (by decide) (fun c1 => ?_) (fun c1 => ?_)
  · have h := h.2 c1
    exact W.vret hx hb hr (fun t ht hW => ⟨⟨σ, rfl, h, by rw [ht]; exact hP, va_K.moved hW.alike hK⟩, hS.F ht⟩) hS.2.2 dX4_finishIfAllAnswered_21
  · have h := h.1 c1
    refine lv_aload_n hx hb dX4_finishIfAllAnswered_11 rfl (lv_at hl 1 rfl) ?_
    refine x_get (C := RX3) (T := TX3) (N := 10) (ci := 3) (a := 5) (k := k1) (v := .ref (ad (6, k1))) hx hb hts iw_X4_finishIfAllAnswered_X3 hown hK hP (in6 hC (a := 5) (by decide) hk1) rfl rfl 1 (by decide) (hts (.fieldLink RX4 36 "PageOwners$Node" "hand" "LPageOwners$Hand;") (by decide +kernel)) (fun _ h9 => h9) rfl dX4_finishIfAllAnswered_12 ?_
    refine x_get (C := RX0) (T := TX0) (N := 10) (ci := 0) (a := 6) (k := k1) (v := .int (σ.1 6 k1 6)) hx hb hts iw_X4_finishIfAllAnswered_X0 hown hK hP (in6 hC (a := 6) (by decide) hk1) rfl rfl 6 (by decide) (hts (.fieldLink RX4 111 "PageOwners$Hand" "answersDue" "I") (by decide +kernel)) (fun _ h9 => h9) rfl dX4_finishIfAllAnswered_15 ?_
    refine lv_if_le (tgt := 22) hx hb dX4_finishIfAllAnswered_18 (by decide) (fun c2 => ?_) (fun c2 => ?_)
    · have h := h.1 c2
      refine lv_aload_n hx hb dX4_finishIfAllAnswered_22 rfl (lv_at hl 1 rfl) ?_
      refine x_get (C := RX3) (T := TX3) (N := 10) (ci := 3) (a := 5) (k := k1) (v := .ref (ad (6, k1))) hx hb hts iw_X4_finishIfAllAnswered_X3 hown hK hP (in6 hC (a := 5) (by decide) hk1) rfl rfl 1 (by decide) (hts (.fieldLink RX4 36 "PageOwners$Node" "hand" "LPageOwners$Hand;") (by decide +kernel)) (fun _ h9 => h9) rfl dX4_finishIfAllAnswered_23 ?_
      refine x_get (C := RX0) (T := TX0) (N := 10) (ci := 0) (a := 6) (k := k1) (v := .int (σ.1 6 k1 2)) hx hb hts iw_X4_finishIfAllAnswered_X0 hown hK hP (in6 hC (a := 6) (by decide) hk1) rfl rfl 2 (by decide) (hts (.fieldLink RX4 127 "PageOwners$Hand" "page" "I") (by decide +kernel)) (fun _ h9 => h9) rfl dX4_finishIfAllAnswered_26 ?_
      refine lv_istore_n (lv' := [(2, .int (σ.1 6 k1 2)), (0, .ref (ad (0, 0))), (1, .ref (ad (5, k1)))]) hx hb dX4_finishIfAllAnswered_29 rfl hl (by decide) rfl (fun ls hl => ?_)
      refine lv_aload_n hx hb dX4_finishIfAllAnswered_30 rfl (lv_at hl 2 rfl) ?_
      refine x_get (C := RX3) (T := TX3) (N := 10) (ci := 3) (a := 5) (k := k1) (v := .ref (ad (7, k1))) hx hb hts iw_X4_finishIfAllAnswered_X3 hown hK hP (in6 hC (a := 5) (by decide) hk1) rfl rfl 2 (by decide) (hts (.fieldLink RX4 46 "PageOwners$Node" "accessTo" "[I") (by decide +kernel)) (fun _ h9 => h9) rfl dX4_finishIfAllAnswered_31 ?_
      refine lv_iload_n hx hb dX4_finishIfAllAnswered_34 rfl (lv_at hl 0 rfl) ?_
      refine lv_iconst (v := 2) hx hb dX4_finishIfAllAnswered_35 (by decide) ?_
      have hin5 := h.1
      have h := h.2
      refine x_iast (a := 7) (k := k1) (n := 8) hx hb hK hP hAd hS (in6 hC (a := 7) (by decide) hk1) (fun _ => rfl) hin5 dX4_finishIfAllAnswered_36 (fun H locs hP hS => ?_)
      obtain ⟨σ3, e4⟩ : ∃ z, z = sI σ 7 k1 (ix (σ.1 6 k1 2)) 2 := ⟨_, rfl⟩
      rw [← e4] at hP
      have h := h σ3 e4
      refine lv_aload_n hx hb dX4_finishIfAllAnswered_37 rfl (lv_at hl 1 rfl) ?_
      refine lv_aload_n hx hb dX4_finishIfAllAnswered_38 rfl (lv_at hl 2 rfl) ?_
      refine x_cVv (C := RX4) (As := [.ref (ad (5, k1))]) (rest := []) ⟨hx, hb, hml, hown, hts⟩ hK hP hS (c_X4_finish l hAd hC σ3 k1 hk1 _ h) (cwV 1 hts gX4_finishIfAllAnswered_X4_finish rfl rfl rfl (by decide +kernel) ⟨Nat.le_of_ble_eq_true rfl, Nat.le_of_ble_eq_true rfl⟩) (x_recv hK hP (in1 hC (a := 0) (by decide) (by decide)) rfl rfl) rfl hl.1 rfl (Nat.le_of_ble_eq_true rfl) dX4_finishIfAllAnswered_39 ⟨Nat.zero_le _, Nat.zero_le _⟩ (fun σ6 H locs h hP hS => ?_)
      refine lv_aload_n hx hb dX4_finishIfAllAnswered_42 rfl (lv_at hl 1 rfl) ?_
      refine lv_aload_n hx hb dX4_finishIfAllAnswered_43 rfl (lv_at hl 2 rfl) ?_
      refine lv_iload_n hx hb dX4_finishIfAllAnswered_44 rfl (lv_at hl 0 rfl) ?_
      refine x_cVv (C := RX4) (As := [.ref (ad (5, k1)), .int (σ.1 6 k1 2)]) (rest := []) ⟨hx, hb, hml, hown, hts⟩ hK hP hS (c_X4_goOverQueue l hAd hC σ6 k1 hk1 (σ.1 6 k1 2) _ h) (cwV 2 hts gX4_finishIfAllAnswered_X4_goOverQueue rfl rfl rfl (by decide +kernel) ⟨Nat.le_of_ble_eq_true rfl, Nat.le_of_ble_eq_true rfl⟩) (x_recv hK hP (in1 hC (a := 0) (by decide) (by decide)) rfl rfl) rfl hl.1 rfl (Nat.le_of_ble_eq_true rfl) dX4_finishIfAllAnswered_45 ⟨Nat.zero_le _, Nat.zero_le _⟩ (fun σ9 H locs h hP hS => ?_)
      exact W.vret hx hb hr (fun t ht hW => ⟨⟨σ9, rfl, h, by rw [ht]; exact hP, va_K.moved hW.alike hK⟩, hS.F ht⟩) hS.2.2 dX4_finishIfAllAnswered_48
    · have h := h.2 c2
      exact W.vret hx hb hr (fun t ht hW => ⟨⟨σ, rfl, h, by rw [ht]; exact hP, va_K.moved hW.alike hK⟩, hS.F ht⟩) hS.2.2 dX4_finishIfAllAnswered_21
theorem iw_X4_givenToRead_X0 : ∀ w ∈ wsX00, w ∈ wsX4_givenToRead := fun _ h => List.mem_cons_of_mem _ (List.mem_append_left _ (List.mem_append_right _ h))
theorem iw_X4_givenToRead_X1 : ∀ w ∈ wsX10, w ∈ wsX4_givenToRead := fun _ h => List.mem_cons_of_mem _ (List.mem_append_left _ (List.mem_append_left _ (List.mem_append_left _ (List.mem_append_right _ h))))
theorem iw_X4_givenToRead_X3 : ∀ w ∈ wsX30, w ∈ wsX4_givenToRead := fun _ h => List.mem_cons_of_mem _ (List.mem_append_left _ (List.mem_append_left _ (List.mem_append_right _ h)))
def wp_X4_givenToRead (σ : Sg) (k1 : Nat) (k2 : Nat) (Q : Sg → Prop) : Prop := ((¬ (0 : Int32) < 0 ∧ ¬ (((σ.1 15 k2 3) * 4) : Int32) < 0 ∧ ¬ (4 : Int32) < 0 ∧ ix 0 + ix 4 ≤ 4 ∧ ix ((σ.1 15 k2 3) * 4) + ix 4 ≤ 32) ∧ (∀ σ1, σ1 = sC σ 16 k2 (ix 0) 11 k1 (ix ((σ.1 15 k2 3) * 4)) (ix 4) → (vp_in (σ.1 15 k2 3) 8 ∧ (∀ σ3, σ3 = sI σ1 9 k1 (ix (σ.1 15 k2 3)) (σ1.1 15 k2 1) → (((σ3.1 6 k1 7) = 0 → (vp_in (σ.1 15 k2 3) 8 ∧ (∀ σ7, σ7 = sI σ3 7 k1 (ix (σ.1 15 k2 3)) 1 → (wp_X4_finish σ7 k1 (fun σ10 => Q σ10))))) ∧ (¬ ((σ3.1 6 k1 7) = 0) → (vp_in (σ.1 15 k2 3) 8 ∧ (∀ σ13, σ13 = sI σ3 7 k1 (ix (σ.1 15 k2 3)) 0 → (wp_X4_finish σ13 k1 (fun σ16 => Q σ16))))))))))
abbrev rm_X4_givenToRead : Room := { frames := 2, cells := 0, slots := 0, locals := 60 }
set_option maxHeartbeats 4000000 in
set_option maxRecDepth 100000 in
theorem c_X4_givenToRead (l : Launch) {D : va_G} {P : List (Nat × Nat)} {ad : Nat × Nat → Nat} {cy : Nat → ClassId} (hAd : AdOk P ad) (hC : InC P) (σ : Sg) (k1 : Nat) (hk1 : k1 < 6) (k2 : Nat) (hk2 : k2 < 32) (Q : Sg → Prop) (h : wp_X4_givenToRead σ k1 k2 Q) : Met l yX4_givenToRead wsX4_givenToRead rm_X4_givenToRead (xPc D P ad cy σ [.ref (ad (0, 0)), .ref (ad (5, k1)), .ref (ad (15, k2))]) (va_Qv Q (xB D P ad cy) (Aof P ad)) 0 0 (Aof P ad) := by
  refine Met.ofW (cc := cX4_givenToRead) (maxL := 4) (ret := none) (by decide +kernel) rfl ?_
  intro p e s m args below meth c s₁ B hml hv
  obtain ⟨rfl, hP, hK⟩ := hv
  have hx := B.exec
  have hb := B.bytes
  have hr := B.returns
  have hts := atoms_spec (ws := wsX4_givenToRead) B.pre
  have hown : s.vm.findClass RX4 = some m.cls := findClass_of_methodNamed B.named
  have hlocks := B.notSynchronized
  have hS : va_S (Aof P ad) s.heap s.heap [] := va_S.rf
  have hl := lv_entry ([.ref (ad (0, 0)), .ref (ad (5, k1)), .ref (ad (15, k2))] : List Value) (n := 4) (Nat.le_of_ble_eq_true rfl)
  rw [lg_entry_eq]
  generalize (lg_sl ([.ref (ad (0, 0)), .ref (ad (5, k1)), .ref (ad (15, k2))] : List Value) ++ List.replicate (4 - (lg_sl ([.ref (ad (0, 0)), .ref (ad (5, k1)), .ref (ad (15, k2))] : List Value)).length) Slot.unset).toArray = ls at hl ⊢
  have hl : lv_has ls 4 [(0, .ref (ad (0, 0))), (1, .ref (ad (5, k1))), (2, .ref (ad (15, k2)))] := hl
  unfold wp_X4_givenToRead at h
  refine lv_aload_n hx hb dX4_givenToRead_0 rfl (lv_at hl 2 rfl) ?_
  refine x_get (C := RX1) (T := TX1) (N := 7) (ci := 1) (a := 15) (k := k2) (v := .int (σ.1 15 k2 3)) hx hb hts iw_X4_givenToRead_X1 hown hK hP (in32 hC (a := 15) (by decide) hk2) rfl rfl 3 (by decide) (hts (.fieldLink RX4 88 "PageOwners$Letter" "page" "I") (by decide +kernel)) (fun _ h9 => h9) rfl dX4_givenToRead_1 ?_
  refine lv_istore_n (lv' := [(3, .int (σ.1 15 k2 3)), (0, .ref (ad (0, 0))), (1, .ref (ad (5, k1))), (2, .ref (ad (15, k2)))]) hx hb dX4_givenToRead_4 rfl hl (by decide) rfl (fun ls hl => ?_)
  refine lv_aload_n hx hb dX4_givenToRead_5 rfl (lv_at hl 3 rfl) ?_
  refine x_get (C := RX1) (T := TX1) (N := 7) (ci := 1) (a := 15) (k := k2) (v := .ref (ad (16, k2))) hx hb hts iw_X4_givenToRead_X1 hown hK hP (in32 hC (a := 15) (by decide) hk2) rfl rfl 6 (by decide) (hts (.fieldLink RX4 173 "PageOwners$Letter" "words" "[J") (by decide +kernel)) (fun _ h9 => h9) rfl dX4_givenToRead_6 ?_
  refine lv_iconst (v := 0) hx hb dX4_givenToRead_9 (by decide) ?_
  refine lv_aload_n hx hb dX4_givenToRead_10 rfl (lv_at hl 2 rfl) ?_
  refine x_get (C := RX3) (T := TX3) (N := 10) (ci := 3) (a := 5) (k := k1) (v := .ref (ad (11, k1))) hx hb hts iw_X4_givenToRead_X3 hown hK hP (in6 hC (a := 5) (by decide) hk1) rfl rfl 6 (by decide) (hts (.fieldLink RX4 153 "PageOwners$Node" "words" "[J") (by decide +kernel)) (fun _ h9 => h9) rfl dX4_givenToRead_11 ?_
  refine lv_iload_n hx hb dX4_givenToRead_14 rfl (lv_at hl 0 rfl) ?_
  refine lv_iconst (v := 4) hx hb dX4_givenToRead_15 (by decide) ?_
  refine lv_imul hx hb dX4_givenToRead_16 ?_
  refine lv_iconst (v := 4) hx hb dX4_givenToRead_17 (by decide) ?_
  have q19 := h.1
  have h := h.2
  refine x_copy (a := 16) (k := k2) (b := 11) (h := k1) (n0 := 4) (n1 := 32) hx hb (hml.trans hl.1.symm) hown (hts (.methodLink RX4 221 arraycopyName) (by decide +kernel)) (hts (.native arraycopyName) (by decide +kernel)) (hts (.static arraycopyName) (by decide +kernel)) (hts (.initialized "java/lang/System") (by decide +kernel)) hK hP hAd hS (in32 hC (a := 16) (by decide) hk2) (in6 hC (a := 11) (by decide) hk1) (fun _ => rfl) (fun _ => rfl) q19.1 q19.2.1 q19.2.2.1 q19.2.2.2.1 q19.2.2.2.2 (Nat.le_of_ble_eq_true rfl) (by decide) dX4_givenToRead_18 (fun H locs hP hS => ?_)
  obtain ⟨σ1, e2⟩ : ∃ z, z = sC σ 16 k2 (ix 0) 11 k1 (ix ((σ.1 15 k2 3) * 4)) (ix 4) := ⟨_, rfl⟩
  rw [← e2] at hP
  have h := h σ1 e2
  refine lv_aload_n hx hb dX4_givenToRead_21 rfl (lv_at hl 2 rfl) ?_
  refine x_get (C := RX3) (T := TX3) (N := 10) (ci := 3) (a := 5) (k := k1) (v := .ref (ad (9, k1))) hx hb hts iw_X4_givenToRead_X3 hown hK hP (in6 hC (a := 5) (by decide) hk1) rfl rfl 4 (by decide) (hts (.fieldLink RX4 144 "PageOwners$Node" "guessOf" "[I") (by decide +kernel)) (fun _ h9 => h9) rfl dX4_givenToRead_22 ?_
  refine lv_iload_n hx hb dX4_givenToRead_25 rfl (lv_at hl 0 rfl) ?_
  refine lv_aload_n hx hb dX4_givenToRead_26 rfl (lv_at hl 3 rfl) ?_
  refine x_get (C := RX1) (T := TX1) (N := 7) (ci := 1) (a := 15) (k := k2) (v := .int (σ1.1 15 k2 1)) hx hb hts iw_X4_givenToRead_X1 hown hK hP (in32 hC (a := 15) (by decide) hk2) rfl rfl 1 (by decide) (hts (.fieldLink RX4 105 "PageOwners$Letter" "from" "I") (by decide +kernel)) (fun _ h9 => h9) rfl dX4_givenToRead_27 ?_
  have hin5 := h.1
  have h := h.2
  refine x_iast (a := 9) (k := k1) (n := 8) hx hb hK hP hAd hS (in6 hC (a := 9) (by decide) hk1) (fun _ => rfl) hin5 dX4_givenToRead_30 (fun H locs hP hS => ?_)
  obtain ⟨σ3, e4⟩ : ∃ z, z = sI σ1 9 k1 (ix (σ.1 15 k2 3)) (σ1.1 15 k2 1) := ⟨_, rfl⟩
  rw [← e4] at hP
  have h := h σ3 e4
  refine lv_aload_n hx hb dX4_givenToRead_31 rfl (lv_at hl 2 rfl) ?_
  refine x_get (C := RX3) (T := TX3) (N := 10) (ci := 3) (a := 5) (k := k1) (v := .ref (ad (7, k1))) hx hb hts iw_X4_givenToRead_X3 hown hK hP (in6 hC (a := 5) (by decide) hk1) rfl rfl 2 (by decide) (hts (.fieldLink RX4 46 "PageOwners$Node" "accessTo" "[I") (by decide +kernel)) (fun _ h9 => h9) rfl dX4_givenToRead_32 ?_
  refine lv_iload_n hx hb dX4_givenToRead_35 rfl (lv_at hl 0 rfl) ?_
  refine lv_aload_n hx hb dX4_givenToRead_36 rfl (lv_at hl 2 rfl) ?_
  refine x_get (C := RX3) (T := TX3) (N := 10) (ci := 3) (a := 5) (k := k1) (v := .ref (ad (6, k1))) hx hb hts iw_X4_givenToRead_X3 hown hK hP (in6 hC (a := 5) (by decide) hk1) rfl rfl 1 (by decide) (hts (.fieldLink RX4 36 "PageOwners$Node" "hand" "LPageOwners$Hand;") (by decide +kernel)) (fun _ h9 => h9) rfl dX4_givenToRead_37 ?_
  refine x_get (C := RX0) (T := TX0) (N := 10) (ci := 0) (a := 6) (k := k1) (v := .int (σ3.1 6 k1 7)) hx hb hts iw_X4_givenToRead_X0 hown hK hP (in6 hC (a := 6) (by decide) hk1) rfl rfl 7 (by decide) (hts (.fieldLink RX4 227 "PageOwners$Hand" "wasCalled" "Z") (by decide +kernel)) (fun _ h9 => h9) rfl dX4_givenToRead_40 ?_
  refine lv_if_eq (tgt := 50) hx hb dX4_givenToRead_43 (by decide) (fun c6 => ?_) (fun c6 => ?_)
  · have h := h.1 c6
    refine lv_iconst (v := 1) hx hb dX4_givenToRead_50 (by decide) ?_
    have hin9 := h.1
    have h := h.2
    refine x_iast (a := 7) (k := k1) (n := 8) hx hb hK hP hAd hS (in6 hC (a := 7) (by decide) hk1) (fun _ => rfl) hin9 dX4_givenToRead_51 (fun H locs hP hS => ?_)
    obtain ⟨σ7, e8⟩ : ∃ z, z = sI σ3 7 k1 (ix (σ.1 15 k2 3)) 1 := ⟨_, rfl⟩
    rw [← e8] at hP
    have h := h σ7 e8
    refine lv_aload_n hx hb dX4_givenToRead_52 rfl (lv_at hl 1 rfl) ?_
    refine lv_aload_n hx hb dX4_givenToRead_53 rfl (lv_at hl 2 rfl) ?_
    refine x_cVv (C := RX4) (As := [.ref (ad (5, k1))]) (rest := []) ⟨hx, hb, hml, hown, hts⟩ hK hP hS (c_X4_finish l hAd hC σ7 k1 hk1 _ h) (cwV 1 hts gX4_givenToRead_X4_finish rfl rfl rfl (by decide +kernel) ⟨Nat.le_of_ble_eq_true rfl, Nat.le_of_ble_eq_true rfl⟩) (x_recv hK hP (in1 hC (a := 0) (by decide) (by decide)) rfl rfl) rfl hl.1 rfl (Nat.le_of_ble_eq_true rfl) dX4_givenToRead_54 ⟨Nat.zero_le _, Nat.zero_le _⟩ (fun σ10 H locs h hP hS => ?_)
    exact W.vret hx hb hr (fun t ht hW => ⟨⟨σ10, rfl, h, by rw [ht]; exact hP, va_K.moved hW.alike hK⟩, hS.F ht⟩) hS.2.2 dX4_givenToRead_57
  · have h := h.2 c6
    refine lv_iconst (v := 0) hx hb dX4_givenToRead_46 (by decide) ?_
    refine lv_goto (tgt := 51) hx hb dX4_givenToRead_47 (by decide) ?_
    have hin15 := h.1
    have h := h.2
    refine x_iast (a := 7) (k := k1) (n := 8) hx hb hK hP hAd hS (in6 hC (a := 7) (by decide) hk1) (fun _ => rfl) hin15 dX4_givenToRead_51 (fun H locs hP hS => ?_)
    obtain ⟨σ13, e14⟩ : ∃ z, z = sI σ3 7 k1 (ix (σ.1 15 k2 3)) 0 := ⟨_, rfl⟩
    rw [← e14] at hP
    have h := h σ13 e14
    refine lv_aload_n hx hb dX4_givenToRead_52 rfl (lv_at hl 1 rfl) ?_
    refine lv_aload_n hx hb dX4_givenToRead_53 rfl (lv_at hl 2 rfl) ?_
    refine x_cVv (C := RX4) (As := [.ref (ad (5, k1))]) (rest := []) ⟨hx, hb, hml, hown, hts⟩ hK hP hS (c_X4_finish l hAd hC σ13 k1 hk1 _ h) (cwV 1 hts gX4_givenToRead_X4_finish rfl rfl rfl (by decide +kernel) ⟨Nat.le_of_ble_eq_true rfl, Nat.le_of_ble_eq_true rfl⟩) (x_recv hK hP (in1 hC (a := 0) (by decide) (by decide)) rfl rfl) rfl hl.1 rfl (Nat.le_of_ble_eq_true rfl) dX4_givenToRead_54 ⟨Nat.zero_le _, Nat.zero_le _⟩ (fun σ16 H locs h hP hS => ?_)
    exact W.vret hx hb hr (fun t ht hW => ⟨⟨σ16, rfl, h, by rw [ht]; exact hP, va_K.moved hW.alike hK⟩, hS.F ht⟩) hS.2.2 dX4_givenToRead_57
theorem iw_X4_givenToWrite_X1 : ∀ w ∈ wsX10, w ∈ wsX4_givenToWrite := fun _ h => List.mem_cons_of_mem _ (List.mem_append_left _ (List.mem_append_left _ (List.mem_append_left _ (List.mem_append_left _ (List.mem_append_right _ h)))))
theorem iw_X4_givenToWrite_X3 : ∀ w ∈ wsX30, w ∈ wsX4_givenToWrite := fun _ h => List.mem_cons_of_mem _ (List.mem_append_left _ (List.mem_append_left _ (List.mem_append_left _ (List.mem_append_right _ h))))
def wp_X4_givenToWrite (σ : Sg) (k1 : Nat) (k2 : Nat) (Q : Sg → Prop) : Prop := ((¬ (0 : Int32) < 0 ∧ ¬ (((σ.1 15 k2 3) * 4) : Int32) < 0 ∧ ¬ (4 : Int32) < 0 ∧ ix 0 + ix 4 ≤ 4 ∧ ix ((σ.1 15 k2 3) * 4) + ix 4 ≤ 32) ∧ (∀ σ1, σ1 = sC σ 16 k2 (ix 0) 11 k1 (ix ((σ.1 15 k2 3) * 4)) (ix 4) → (vp_in (σ.1 15 k2 3) 8 ∧ (∀ σ3, σ3 = sI σ1 10 k1 (ix (σ.1 15 k2 3)) ((σ1.1 15 k2 5) &&& ((1 <<< ((σ1.1 5 k1 0) &&& 31)) ^^^ (-1))) → (vp_in (σ.1 15 k2 3) 8 ∧ (∀ σ6, σ6 = sI σ3 8 k1 (ix (σ.1 15 k2 3)) 1 → (vp_in (σ.1 15 k2 3) 8 ∧ (∀ σ9, σ9 = sI σ6 9 k1 (ix (σ.1 15 k2 3)) (σ6.1 5 k1 0) → (wp_X4_callBack σ9 k1 (fun σ12 => Q σ12))))))))))
abbrev rm_X4_givenToWrite : Room := { frames := 4, cells := 0, slots := 0, locals := 87 }
set_option maxHeartbeats 4000000 in
set_option maxRecDepth 100000 in
theorem c_X4_givenToWrite (l : Launch) {D : va_G} {P : List (Nat × Nat)} {ad : Nat × Nat → Nat} {cy : Nat → ClassId} (hAd : AdOk P ad) (hC : InC P) (σ : Sg) (k1 : Nat) (hk1 : k1 < 6) (k2 : Nat) (hk2 : k2 < 32) (Q : Sg → Prop) (h : wp_X4_givenToWrite σ k1 k2 Q) : Met l yX4_givenToWrite wsX4_givenToWrite rm_X4_givenToWrite (xPc D P ad cy σ [.ref (ad (0, 0)), .ref (ad (5, k1)), .ref (ad (15, k2))]) (va_Qv Q (xB D P ad cy) (Aof P ad)) 0 0 (Aof P ad) := by
  refine Met.ofW (cc := cX4_givenToWrite) (maxL := 4) (ret := none) (by decide +kernel) rfl ?_
  intro p e s m args below meth c s₁ B hml hv
  obtain ⟨rfl, hP, hK⟩ := hv
  have hx := B.exec
  have hb := B.bytes
  have hr := B.returns
  have hts := atoms_spec (ws := wsX4_givenToWrite) B.pre
  have hown : s.vm.findClass RX4 = some m.cls := findClass_of_methodNamed B.named
  have hlocks := B.notSynchronized
  have hS : va_S (Aof P ad) s.heap s.heap [] := va_S.rf
  have hl := lv_entry ([.ref (ad (0, 0)), .ref (ad (5, k1)), .ref (ad (15, k2))] : List Value) (n := 4) (Nat.le_of_ble_eq_true rfl)
  rw [lg_entry_eq]
  generalize (lg_sl ([.ref (ad (0, 0)), .ref (ad (5, k1)), .ref (ad (15, k2))] : List Value) ++ List.replicate (4 - (lg_sl ([.ref (ad (0, 0)), .ref (ad (5, k1)), .ref (ad (15, k2))] : List Value)).length) Slot.unset).toArray = ls at hl ⊢
  have hl : lv_has ls 4 [(0, .ref (ad (0, 0))), (1, .ref (ad (5, k1))), (2, .ref (ad (15, k2)))] := hl
  unfold wp_X4_givenToWrite at h
  refine lv_aload_n hx hb dX4_givenToWrite_0 rfl (lv_at hl 2 rfl) ?_
  refine x_get (C := RX1) (T := TX1) (N := 7) (ci := 1) (a := 15) (k := k2) (v := .int (σ.1 15 k2 3)) hx hb hts iw_X4_givenToWrite_X1 hown hK hP (in32 hC (a := 15) (by decide) hk2) rfl rfl 3 (by decide) (hts (.fieldLink RX4 88 "PageOwners$Letter" "page" "I") (by decide +kernel)) (fun _ h9 => h9) rfl dX4_givenToWrite_1 ?_
  refine lv_istore_n (lv' := [(3, .int (σ.1 15 k2 3)), (0, .ref (ad (0, 0))), (1, .ref (ad (5, k1))), (2, .ref (ad (15, k2)))]) hx hb dX4_givenToWrite_4 rfl hl (by decide) rfl (fun ls hl => ?_)
  refine lv_aload_n hx hb dX4_givenToWrite_5 rfl (lv_at hl 3 rfl) ?_
  refine x_get (C := RX1) (T := TX1) (N := 7) (ci := 1) (a := 15) (k := k2) (v := .ref (ad (16, k2))) hx hb hts iw_X4_givenToWrite_X1 hown hK hP (in32 hC (a := 15) (by decide) hk2) rfl rfl 6 (by decide) (hts (.fieldLink RX4 173 "PageOwners$Letter" "words" "[J") (by decide +kernel)) (fun _ h9 => h9) rfl dX4_givenToWrite_6 ?_
  refine lv_iconst (v := 0) hx hb dX4_givenToWrite_9 (by decide) ?_
  refine lv_aload_n hx hb dX4_givenToWrite_10 rfl (lv_at hl 2 rfl) ?_
  refine x_get (C := RX3) (T := TX3) (N := 10) (ci := 3) (a := 5) (k := k1) (v := .ref (ad (11, k1))) hx hb hts iw_X4_givenToWrite_X3 hown hK hP (in6 hC (a := 5) (by decide) hk1) rfl rfl 6 (by decide) (hts (.fieldLink RX4 153 "PageOwners$Node" "words" "[J") (by decide +kernel)) (fun _ h9 => h9) rfl dX4_givenToWrite_11 ?_
  refine lv_iload_n hx hb dX4_givenToWrite_14 rfl (lv_at hl 0 rfl) ?_
  refine lv_iconst (v := 4) hx hb dX4_givenToWrite_15 (by decide) ?_
  refine lv_imul hx hb dX4_givenToWrite_16 ?_
  refine lv_iconst (v := 4) hx hb dX4_givenToWrite_17 (by decide) ?_
  have q15 := h.1
  have h := h.2
  refine x_copy (a := 16) (k := k2) (b := 11) (h := k1) (n0 := 4) (n1 := 32) hx hb (hml.trans hl.1.symm) hown (hts (.methodLink RX4 221 arraycopyName) (by decide +kernel)) (hts (.native arraycopyName) (by decide +kernel)) (hts (.static arraycopyName) (by decide +kernel)) (hts (.initialized "java/lang/System") (by decide +kernel)) hK hP hAd hS (in32 hC (a := 16) (by decide) hk2) (in6 hC (a := 11) (by decide) hk1) (fun _ => rfl) (fun _ => rfl) q15.1 q15.2.1 q15.2.2.1 q15.2.2.2.1 q15.2.2.2.2 (Nat.le_of_ble_eq_true rfl) (by decide) dX4_givenToWrite_18 (fun H locs hP hS => ?_)
  obtain ⟨σ1, e2⟩ : ∃ z, z = sC σ 16 k2 (ix 0) 11 k1 (ix ((σ.1 15 k2 3) * 4)) (ix 4) := ⟨_, rfl⟩
  rw [← e2] at hP
  have h := h σ1 e2
  refine lv_aload_n hx hb dX4_givenToWrite_21 rfl (lv_at hl 2 rfl) ?_
  refine x_get (C := RX3) (T := TX3) (N := 10) (ci := 3) (a := 5) (k := k1) (v := .ref (ad (10, k1))) hx hb hts iw_X4_givenToWrite_X3 hown hK hP (in6 hC (a := 5) (by decide) hk1) rfl rfl 5 (by decide) (hts (.fieldLink RX4 147 "PageOwners$Node" "copySet" "[I") (by decide +kernel)) (fun _ h9 => h9) rfl dX4_givenToWrite_22 ?_
  refine lv_iload_n hx hb dX4_givenToWrite_25 rfl (lv_at hl 0 rfl) ?_
  refine lv_aload_n hx hb dX4_givenToWrite_26 rfl (lv_at hl 3 rfl) ?_
  refine x_get (C := RX1) (T := TX1) (N := 7) (ci := 1) (a := 15) (k := k2) (v := .int (σ1.1 15 k2 5)) hx hb hts iw_X4_givenToWrite_X1 hown hK hP (in32 hC (a := 15) (by decide) hk2) rfl rfl 5 (by decide) (hts (.fieldLink RX4 171 "PageOwners$Letter" "copySet" "I") (by decide +kernel)) (fun _ h9 => h9) rfl dX4_givenToWrite_27 ?_
  refine lv_iconst (v := 1) hx hb dX4_givenToWrite_30 (by decide) ?_
  refine lv_aload_n hx hb dX4_givenToWrite_31 rfl (lv_at hl 2 rfl) ?_
  refine x_get (C := RX3) (T := TX3) (N := 10) (ci := 3) (a := 5) (k := k1) (v := .int (σ1.1 5 k1 0)) hx hb hts iw_X4_givenToWrite_X3 hown hK hP (in6 hC (a := 5) (by decide) hk1) rfl rfl 0 (by decide) (hts (.fieldLink RX4 181 "PageOwners$Node" "number" "I") (by decide +kernel)) (fun _ h9 => h9) rfl dX4_givenToWrite_32 ?_
  refine lv_ishl hx hb dX4_givenToWrite_35 ?_
  refine lv_iconst (v := (-1)) hx hb dX4_givenToWrite_36 (by decide) ?_
  refine lv_ixor hx hb dX4_givenToWrite_37 ?_
  refine lv_iand hx hb dX4_givenToWrite_38 ?_
  have hin5 := h.1
  have h := h.2
  refine x_iast (a := 10) (k := k1) (n := 8) hx hb hK hP hAd hS (in6 hC (a := 10) (by decide) hk1) (fun _ => rfl) hin5 dX4_givenToWrite_39 (fun H locs hP hS => ?_)
  obtain ⟨σ3, e4⟩ : ∃ z, z = sI σ1 10 k1 (ix (σ.1 15 k2 3)) ((σ1.1 15 k2 5) &&& ((1 <<< ((σ1.1 5 k1 0) &&& 31)) ^^^ (-1))) := ⟨_, rfl⟩
  rw [← e4] at hP
  have h := h σ3 e4
  refine lv_aload_n hx hb dX4_givenToWrite_40 rfl (lv_at hl 2 rfl) ?_
  refine x_get (C := RX3) (T := TX3) (N := 10) (ci := 3) (a := 5) (k := k1) (v := .ref (ad (8, k1))) hx hb hts iw_X4_givenToWrite_X3 hown hK hP (in6 hC (a := 5) (by decide) hk1) rfl rfl 3 (by decide) (hts (.fieldLink RX4 61 "PageOwners$Node" "owns" "[Z") (by decide +kernel)) (fun _ h9 => h9) rfl dX4_givenToWrite_41 ?_
  refine lv_iload_n hx hb dX4_givenToWrite_44 rfl (lv_at hl 0 rfl) ?_
  refine lv_iconst (v := 1) hx hb dX4_givenToWrite_45 (by decide) ?_
  have hin8 := h.1
  have h := h.2
  refine x_zast (a := 8) (k := k1) (n := 8) hx hb hK hP hAd hS (in6 hC (a := 8) (by decide) hk1) (fun _ => rfl) hin8 (by decide) dX4_givenToWrite_46 (fun H locs hP hS => ?_)
  obtain ⟨σ6, e7⟩ : ∃ z, z = sI σ3 8 k1 (ix (σ.1 15 k2 3)) 1 := ⟨_, rfl⟩
  rw [← e7] at hP
  have h := h σ6 e7
  refine lv_aload_n hx hb dX4_givenToWrite_47 rfl (lv_at hl 2 rfl) ?_
  refine x_get (C := RX3) (T := TX3) (N := 10) (ci := 3) (a := 5) (k := k1) (v := .ref (ad (9, k1))) hx hb hts iw_X4_givenToWrite_X3 hown hK hP (in6 hC (a := 5) (by decide) hk1) rfl rfl 4 (by decide) (hts (.fieldLink RX4 144 "PageOwners$Node" "guessOf" "[I") (by decide +kernel)) (fun _ h9 => h9) rfl dX4_givenToWrite_48 ?_
  refine lv_iload_n hx hb dX4_givenToWrite_51 rfl (lv_at hl 0 rfl) ?_
  refine lv_aload_n hx hb dX4_givenToWrite_52 rfl (lv_at hl 2 rfl) ?_
  refine x_get (C := RX3) (T := TX3) (N := 10) (ci := 3) (a := 5) (k := k1) (v := .int (σ6.1 5 k1 0)) hx hb hts iw_X4_givenToWrite_X3 hown hK hP (in6 hC (a := 5) (by decide) hk1) rfl rfl 0 (by decide) (hts (.fieldLink RX4 181 "PageOwners$Node" "number" "I") (by decide +kernel)) (fun _ h9 => h9) rfl dX4_givenToWrite_53 ?_
  have hin11 := h.1
  have h := h.2
  refine x_iast (a := 9) (k := k1) (n := 8) hx hb hK hP hAd hS (in6 hC (a := 9) (by decide) hk1) (fun _ => rfl) hin11 dX4_givenToWrite_56 (fun H locs hP hS => ?_)
  obtain ⟨σ9, e10⟩ : ∃ z, z = sI σ6 9 k1 (ix (σ.1 15 k2 3)) (σ6.1 5 k1 0) := ⟨_, rfl⟩
  rw [← e10] at hP
  have h := h σ9 e10
  refine lv_aload_n hx hb dX4_givenToWrite_57 rfl (lv_at hl 1 rfl) ?_
  refine lv_aload_n hx hb dX4_givenToWrite_58 rfl (lv_at hl 2 rfl) ?_
  refine x_cVv (C := RX4) (As := [.ref (ad (5, k1))]) (rest := []) ⟨hx, hb, hml, hown, hts⟩ hK hP hS (c_X4_callBack l hAd hC σ9 k1 hk1 _ h) (cwV 1 hts gX4_givenToWrite_X4_callBack rfl rfl rfl (by decide +kernel) ⟨Nat.le_of_ble_eq_true rfl, Nat.le_of_ble_eq_true rfl⟩) (x_recv hK hP (in1 hC (a := 0) (by decide) (by decide)) rfl rfl) rfl hl.1 rfl (Nat.le_of_ble_eq_true rfl) dX4_givenToWrite_59 ⟨Nat.zero_le _, Nat.zero_le _⟩ (fun σ12 H locs h hP hS => ?_)
  exact W.vret hx hb hr (fun t ht hW => ⟨⟨σ12, rfl, h, by rw [ht]; exact hP, va_K.moved hW.alike hK⟩, hS.F ht⟩) hS.2.2 dX4_givenToWrite_62
theorem iw_X4_calledBack_X0 : ∀ w ∈ wsX00, w ∈ wsX4_calledBack := fun _ h => List.mem_cons_of_mem _ (List.mem_append_left _ (List.mem_append_left _ (List.mem_append_left _ (List.mem_append_right _ h))))
theorem iw_X4_calledBack_X3 : ∀ w ∈ wsX30, w ∈ wsX4_calledBack := fun _ h => List.mem_cons_of_mem _ (List.mem_append_left _ (List.mem_append_left _ (List.mem_append_left _ (List.mem_append_left _ (List.mem_append_right _ h)))))
def wp_X4_calledBack (σ : Sg) (k1 : Nat) (x2 : Int32) (x3 : Int32) (Q : Sg → Prop) : Prop := (vp_in x2 8 ∧ (∀ σ1, σ1 = sI σ 7 k1 (ix x2) 0 → (vp_in x2 8 ∧ (∀ σ4, σ4 = sI σ1 9 k1 (ix x2) x3 → (wp_X0_awaits σ4 k1 1 x2 (fun σ7 r8 => ((r8 = 0 → (wp_X4_send σ7 6 (σ7.1 5 k1 0) x3 x2 (fun σ11 r12 => Q σ11))) ∧ (¬ (r8 = 0) → (∀ σ14, σ14 = sI σ7 6 k1 7 1 → (wp_X4_send σ14 6 (σ14.1 5 k1 0) x3 x2 (fun σ16 r17 => Q σ16)))))))))))
abbrev rm_X4_calledBack : Room := { frames := 3, cells := 0, slots := 0, locals := 63 }
set_option maxHeartbeats 4000000 in
set_option maxRecDepth 100000 in
theorem c_X4_calledBack (l : Launch) {D : va_G} {P : List (Nat × Nat)} {ad : Nat × Nat → Nat} {cy : Nat → ClassId} (hAd : AdOk P ad) (hC : InC P) (σ : Sg) (k1 : Nat) (hk1 : k1 < 6) (x2 : Int32) (x3 : Int32) (Q : Sg → Prop) (h : wp_X4_calledBack σ k1 x2 x3 Q) : Met l yX4_calledBack wsX4_calledBack rm_X4_calledBack (xPc D P ad cy σ [.ref (ad (0, 0)), .ref (ad (5, k1)), .int x2, .int x3]) (va_Qv Q (xB D P ad cy) (Aof P ad)) 0 0 (Aof P ad) := by
  refine Met.ofW (cc := cX4_calledBack) (maxL := 4) (ret := none) (by decide +kernel) rfl ?_
  intro p e s m args below meth c s₁ B hml hv
  obtain ⟨rfl, hP, hK⟩ := hv
  have hx := B.exec
  have hb := B.bytes
  have hr := B.returns
  have hts := atoms_spec (ws := wsX4_calledBack) B.pre
  have hown : s.vm.findClass RX4 = some m.cls := findClass_of_methodNamed B.named
  have hlocks := B.notSynchronized
  have hS : va_S (Aof P ad) s.heap s.heap [] := va_S.rf
  have hl := lv_entry ([.ref (ad (0, 0)), .ref (ad (5, k1)), .int x2, .int x3] : List Value) (n := 4) (Nat.le_of_ble_eq_true rfl)
  rw [lg_entry_eq]
  generalize (lg_sl ([.ref (ad (0, 0)), .ref (ad (5, k1)), .int x2, .int x3] : List Value) ++ List.replicate (4 - (lg_sl ([.ref (ad (0, 0)), .ref (ad (5, k1)), .int x2, .int x3] : List Value)).length) Slot.unset).toArray = ls at hl ⊢
  have hl : lv_has ls 4 [(0, .ref (ad (0, 0))), (1, .ref (ad (5, k1))), (2, .int x2), (3, .int x3)] := hl
  unfold wp_X4_calledBack at h
  refine lv_aload_n hx hb dX4_calledBack_0 rfl (lv_at hl 1 rfl) ?_
  refine x_get (C := RX3) (T := TX3) (N := 10) (ci := 3) (a := 5) (k := k1) (v := .ref (ad (7, k1))) hx hb hts iw_X4_calledBack_X3 hown hK hP (in6 hC (a := 5) (by decide) hk1) rfl rfl 2 (by decide) (hts (.fieldLink RX4 46 "PageOwners$Node" "accessTo" "[I") (by decide +kernel)) (fun _ h9 => h9) rfl dX4_calledBack_1 ?_
  refine lv_iload_n hx hb dX4_calledBack_4 rfl (lv_at hl 2 rfl) ?_
  refine lv_iconst (v := 0) hx hb dX4_calledBack_5 (by decide) ?_
  have hin3 := h.1
  have h := h.2
  refine x_iast (a := 7) (k := k1) (n := 8) hx hb hK hP hAd hS (in6 hC (a := 7) (by decide) hk1) (fun _ => rfl) hin3 dX4_calledBack_6 (fun H locs hP hS => ?_)
  obtain ⟨σ1, e2⟩ : ∃ z, z = sI σ 7 k1 (ix x2) 0 := ⟨_, rfl⟩
  rw [← e2] at hP
  have h := h σ1 e2
  refine lv_aload_n hx hb dX4_calledBack_7 rfl (lv_at hl 1 rfl) ?_
  refine x_get (C := RX3) (T := TX3) (N := 10) (ci := 3) (a := 5) (k := k1) (v := .ref (ad (9, k1))) hx hb hts iw_X4_calledBack_X3 hown hK hP (in6 hC (a := 5) (by decide) hk1) rfl rfl 4 (by decide) (hts (.fieldLink RX4 144 "PageOwners$Node" "guessOf" "[I") (by decide +kernel)) (fun _ h9 => h9) rfl dX4_calledBack_8 ?_
  refine lv_iload_n hx hb dX4_calledBack_11 rfl (lv_at hl 2 rfl) ?_
  refine lv_iload_n hx hb dX4_calledBack_12 rfl (lv_at hl 3 rfl) ?_
  have hin6 := h.1
  have h := h.2
  refine x_iast (a := 9) (k := k1) (n := 8) hx hb hK hP hAd hS (in6 hC (a := 9) (by decide) hk1) (fun _ => rfl) hin6 dX4_calledBack_13 (fun H locs hP hS => ?_)
  obtain ⟨σ4, e5⟩ : ∃ z, z = sI σ1 9 k1 (ix x2) x3 := ⟨_, rfl⟩
  rw [← e5] at hP
  have h := h σ4 e5
  refine lv_aload_n hx hb dX4_calledBack_14 rfl (lv_at hl 1 rfl) ?_
  refine x_get (C := RX3) (T := TX3) (N := 10) (ci := 3) (a := 5) (k := k1) (v := .ref (ad (6, k1))) hx hb hts iw_X4_calledBack_X3 hown hK hP (in6 hC (a := 5) (by decide) hk1) rfl rfl 1 (by decide) (hts (.fieldLink RX4 36 "PageOwners$Node" "hand" "LPageOwners$Hand;") (by decide +kernel)) (fun _ h9 => h9) rfl dX4_calledBack_15 ?_
  refine lv_iconst (v := 1) hx hb dX4_calledBack_18 (by decide) ?_
  refine lv_iload_n hx hb dX4_calledBack_19 rfl (lv_at hl 2 rfl) ?_
  refine x_cVi (C := RX0) (As := [.int 1, .int x2]) (rest := []) ⟨hx, hb, hml, hown, hts⟩ hK hP hS (c_X0_awaits l hAd hC σ4 k1 hk1 1 x2 _ h) (cwV 2 hts gX4_calledBack_X0_awaits rfl rfl rfl (by decide +kernel) ⟨Nat.le_of_ble_eq_true rfl, Nat.le_of_ble_eq_true rfl⟩) (x_recv hK hP (in6 hC (a := 6) (by decide) hk1) rfl rfl) rfl hl.1 rfl (Nat.le_of_ble_eq_true rfl) dX4_calledBack_20 ⟨Nat.zero_le _, Nat.zero_le _⟩ (fun r8 σ7 H locs h hP hS => ?_)
  refine lv_if_eq (tgt := 34) hx hb dX4_calledBack_23 (by decide) (fun c10 => ?_) (fun c10 => ?_)
  · have h := h.1 c10
    refine lv_aload_n hx hb dX4_calledBack_34 rfl (lv_at hl 0 rfl) ?_
    refine lv_bipush (v := 6) hx hb dX4_calledBack_35 (by decide) ?_
    refine lv_aload_n hx hb dX4_calledBack_37 rfl (lv_at hl 1 rfl) ?_
    refine x_get (C := RX3) (T := TX3) (N := 10) (ci := 3) (a := 5) (k := k1) (v := .int (σ7.1 5 k1 0)) hx hb hts iw_X4_calledBack_X3 hown hK hP (in6 hC (a := 5) (by decide) hk1) rfl rfl 0 (by decide) (hts (.fieldLink RX4 181 "PageOwners$Node" "number" "I") (by decide +kernel)) (fun _ h9 => h9) rfl dX4_calledBack_38 ?_
    refine lv_iload_n hx hb dX4_calledBack_41 rfl (lv_at hl 3 rfl) ?_
    refine lv_iload_n hx hb dX4_calledBack_42 rfl (lv_at hl 2 rfl) ?_
    refine x_cVr (C := RX4) (As := [.int 6, .int (σ7.1 5 k1 0), .int x3, .int x2]) (rest := []) ⟨hx, hb, hml, hown, hts⟩ hK hP hS (c_X4_send l hAd hC σ7 6 (σ7.1 5 k1 0) x3 x2 _ h) (cwV 4 hts gX4_calledBack_X4_send rfl rfl rfl (by decide +kernel) ⟨Nat.le_of_ble_eq_true rfl, Nat.le_of_ble_eq_true rfl⟩) (x_recv hK hP (in1 hC (a := 0) (by decide) (by decide)) rfl rfl) rfl hl.1 rfl (Nat.le_of_ble_eq_true rfl) dX4_calledBack_43 ⟨Nat.zero_le _, Nat.zero_le _⟩ (fun r12 σ11 H locs hr13 h hP hS => ?_)
    refine lv_pop hx hb dX4_calledBack_46 rfl ?_
    exact W.vret hx hb hr (fun t ht hW => ⟨⟨σ11, rfl, h, by rw [ht]; exact hP, va_K.moved hW.alike hK⟩, hS.F ht⟩) hS.2.2 dX4_calledBack_47
  · have h := h.2 c10
    refine lv_aload_n hx hb dX4_calledBack_26 rfl (lv_at hl 1 rfl) ?_
    refine x_get (C := RX3) (T := TX3) (N := 10) (ci := 3) (a := 5) (k := k1) (v := .ref (ad (6, k1))) hx hb hts iw_X4_calledBack_X3 hown hK hP (in6 hC (a := 5) (by decide) hk1) rfl rfl 1 (by decide) (hts (.fieldLink RX4 36 "PageOwners$Node" "hand" "LPageOwners$Hand;") (by decide +kernel)) (fun _ h9 => h9) rfl dX4_calledBack_27 ?_
    refine lv_iconst (v := 1) hx hb dX4_calledBack_30 (by decide) ?_
    refine x_puti (C := RX0) (T := TX0) (N := 10) (ci := 0) (a := 6) (k := k1) (v := 1) (ty := .boolean) hx hb hts iw_X4_calledBack_X0 tyX0 tyX0_ok nmX0 hown hK hP hAd hS (in6 hC (a := 6) (by decide) hk1) rfl rfl 7 (by decide) (hts (.fieldLink RX4 227 "PageOwners$Hand" "wasCalled" "Z") (by decide +kernel)) (fun _ h9 => h9) rfl (by decide +kernel) rfl rfl (Nat.le_of_ble_eq_true rfl) rfl dX4_calledBack_31 (fun H locs hP hS => ?_)
    obtain ⟨σ14, e15⟩ : ∃ z, z = sI σ7 6 k1 7 1 := ⟨_, rfl⟩
    rw [← e15] at hP
    have h := h σ14 e15
    refine lv_aload_n hx hb dX4_calledBack_34 rfl (lv_at hl 0 rfl) ?_
    refine lv_bipush (v := 6) hx hb dX4_calledBack_35 (by decide) ?_
    refine lv_aload_n hx hb dX4_calledBack_37 rfl (lv_at hl 1 rfl) ?_
    refine x_get (C := RX3) (T := TX3) (N := 10) (ci := 3) (a := 5) (k := k1) (v := .int (σ14.1 5 k1 0)) hx hb hts iw_X4_calledBack_X3 hown hK hP (in6 hC (a := 5) (by decide) hk1) rfl rfl 0 (by decide) (hts (.fieldLink RX4 181 "PageOwners$Node" "number" "I") (by decide +kernel)) (fun _ h9 => h9) rfl dX4_calledBack_38 ?_
    refine lv_iload_n hx hb dX4_calledBack_41 rfl (lv_at hl 3 rfl) ?_
    refine lv_iload_n hx hb dX4_calledBack_42 rfl (lv_at hl 2 rfl) ?_
    refine x_cVr (C := RX4) (As := [.int 6, .int (σ14.1 5 k1 0), .int x3, .int x2]) (rest := []) ⟨hx, hb, hml, hown, hts⟩ hK hP hS (c_X4_send l hAd hC σ14 6 (σ14.1 5 k1 0) x3 x2 _ h) (cwV 4 hts gX4_calledBack_X4_send rfl rfl rfl (by decide +kernel) ⟨Nat.le_of_ble_eq_true rfl, Nat.le_of_ble_eq_true rfl⟩) (x_recv hK hP (in1 hC (a := 0) (by decide) (by decide)) rfl rfl) rfl hl.1 rfl (Nat.le_of_ble_eq_true rfl) dX4_calledBack_43 ⟨Nat.zero_le _, Nat.zero_le _⟩ (fun r17 σ16 H locs hr18 h hP hS => ?_)
    refine lv_pop hx hb dX4_calledBack_46 rfl ?_
    exact W.vret hx hb hr (fun t ht hW => ⟨⟨σ16, rfl, h, by rw [ht]; exact hP, va_K.moved hW.alike hK⟩, hS.F ht⟩) hS.2.2 dX4_calledBack_47
theorem iw_X4_endsChain_X3 : ∀ w ∈ wsX30, w ∈ wsX4_endsChain := fun _ h => List.mem_cons_of_mem _ (List.mem_append_left _ (List.mem_append_right _ h))
def wp_X4_endsChain (σ : Sg) (k1 : Nat) (x2 : Int32) (Q : Sg → Int32 → Prop) : Prop := (vp_in x2 8 ∧ (((σ.1 8 k1 (ix x2)) = 0 → (wp_X0_awaits σ k1 2 x2 (fun σ3 r4 => ((r4 = 0 → (Q σ3 0)) ∧ (¬ (r4 = 0) → (Q σ3 1)))))) ∧ (¬ ((σ.1 8 k1 (ix x2)) = 0) → (Q σ 1))))
abbrev rm_X4_endsChain : Room := { frames := 1, cells := 0, slots := 0, locals := 22 }
set_option maxHeartbeats 4000000 in
set_option maxRecDepth 100000 in
theorem c_X4_endsChain (l : Launch) {D : va_G} {P : List (Nat × Nat)} {ad : Nat × Nat → Nat} {cy : Nat → ClassId} (hAd : AdOk P ad) (hC : InC P) (σ : Sg) (k1 : Nat) (hk1 : k1 < 6) (x2 : Int32) (Q : Sg → Int32 → Prop) (h : wp_X4_endsChain σ k1 x2 Q) : Met l yX4_endsChain wsX4_endsChain rm_X4_endsChain (xPc D P ad cy σ [.ref (ad (5, k1)), .int x2]) (va_Qi (fun r σ' => Q σ' r) (xB D P ad cy) (Aof P ad)) 0 0 (Aof P ad) := by
  refine Met.ofW (cc := cX4_endsChain) (maxL := 2) (ret := (some .boolean)) (by decide +kernel) rfl ?_
  intro p e s m args below meth c s₁ B hml hv
  obtain ⟨rfl, hP, hK⟩ := hv
  have hx := B.exec
  have hb := B.bytes
  have hr := B.returns
  have hts := atoms_spec (ws := wsX4_endsChain) B.pre
  have hown : s.vm.findClass RX4 = some m.cls := findClass_of_methodNamed B.named
  have hlocks := B.notSynchronized
  have hS : va_S (Aof P ad) s.heap s.heap [] := va_S.rf
  have hl := lv_entry ([.ref (ad (5, k1)), .int x2] : List Value) (n := 2) (Nat.le_of_ble_eq_true rfl)
  rw [lg_entry_eq]
  generalize (lg_sl ([.ref (ad (5, k1)), .int x2] : List Value) ++ List.replicate (2 - (lg_sl ([.ref (ad (5, k1)), .int x2] : List Value)).length) Slot.unset).toArray = ls at hl ⊢
  have hl : lv_has ls 2 [(0, .ref (ad (5, k1))), (1, .int x2)] := hl
  unfold wp_X4_endsChain at h
  refine lv_aload_n hx hb dX4_endsChain_0 rfl (lv_at hl 0 rfl) ?_
  refine x_get (C := RX3) (T := TX3) (N := 10) (ci := 3) (a := 5) (k := k1) (v := .ref (ad (8, k1))) hx hb hts iw_X4_endsChain_X3 hown hK hP (in6 hC (a := 5) (by decide) hk1) rfl rfl 3 (by decide) (hts (.fieldLink RX4 61 "PageOwners$Node" "owns" "[Z") (by decide +kernel)) (fun _ h9 => h9) rfl dX4_endsChain_1 ?_
  refine lv_iload_n hx hb dX4_endsChain_4 rfl (lv_at hl 1 rfl) ?_
  have hin1 := h.1
  have h := h.2
  refine x_zald (a := 8) (k := k1) (n := 8) hx hb hK hP (in6 hC (a := 8) (by decide) hk1) (fun _ => rfl) hin1 dX4_endsChain_5 ?_
  refine lv_if_ne (tgt := 21) hx hb dX4_endsChain_6 (by decide) (fun c2 => ?_) (fun c2 => ?_)
  · have h := h.2 c2
    refine lv_iconst (v := 1) hx hb dX4_endsChain_21 (by decide) ?_
    refine lv_goto (tgt := 26) hx hb dX4_endsChain_22 (by decide) ?_
    exact W.zret (v := 1) hx hb hr rfl (fun t ht hW => ⟨⟨1, σ, rfl, h, by rw [ht]; exact hP, va_K.moved hW.alike hK⟩, hS.F ht⟩) hS.2.2 dX4_endsChain_26
  · have h := h.1 c2
    refine lv_aload_n hx hb dX4_endsChain_9 rfl (lv_at hl 0 rfl) ?_
    refine x_get (C := RX3) (T := TX3) (N := 10) (ci := 3) (a := 5) (k := k1) (v := .ref (ad (6, k1))) hx hb hts iw_X4_endsChain_X3 hown hK hP (in6 hC (a := 5) (by decide) hk1) rfl rfl 1 (by decide) (hts (.fieldLink RX4 36 "PageOwners$Node" "hand" "LPageOwners$Hand;") (by decide +kernel)) (fun _ h9 => h9) rfl dX4_endsChain_10 ?_
    refine lv_iconst (v := 2) hx hb dX4_endsChain_13 (by decide) ?_
    refine lv_iload_n hx hb dX4_endsChain_14 rfl (lv_at hl 1 rfl) ?_
    refine x_cVi (C := RX0) (As := [.int 2, .int x2]) (rest := []) ⟨hx, hb, hml, hown, hts⟩ hK hP hS (c_X0_awaits l hAd hC σ k1 hk1 2 x2 _ h) (cwV 2 hts gX4_endsChain_X0_awaits rfl rfl rfl (by decide +kernel) ⟨Nat.le_of_ble_eq_true rfl, Nat.le_of_ble_eq_true rfl⟩) (x_recv hK hP (in6 hC (a := 6) (by decide) hk1) rfl rfl) rfl hl.1 rfl (Nat.le_of_ble_eq_true rfl) dX4_endsChain_15 ⟨Nat.zero_le _, Nat.zero_le _⟩ (fun r4 σ3 H locs h hP hS => ?_)
    refine lv_if_eq (tgt := 25) hx hb dX4_endsChain_18 (by decide) (fun c6 => ?_) (fun c6 => ?_)
    · have h := h.1 c6
      refine lv_iconst (v := 0) hx hb dX4_endsChain_25 (by decide) ?_
      exact W.zret (v := 0) hx hb hr rfl (fun t ht hW => ⟨⟨0, σ3, rfl, h, by rw [ht]; exact hP, va_K.moved hW.alike hK⟩, hS.F ht⟩) hS.2.2 dX4_endsChain_26
    · have h := h.2 c6
      refine lv_iconst (v := 1) hx hb dX4_endsChain_21 (by decide) ?_
      refine lv_goto (tgt := 26) hx hb dX4_endsChain_22 (by decide) ?_
      exact W.zret (v := 1) hx hb hr rfl (fun t ht hW => ⟨⟨1, σ3, rfl, h, by rw [ht]; exact hP, va_K.moved hW.alike hK⟩, hS.F ht⟩) hS.2.2 dX4_endsChain_26
