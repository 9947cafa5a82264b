theorem iw_X5_waits_X5 : ∀ w ∈ wsX50, w ∈ wsX5_waits := fun _ h => List.mem_cons_of_mem _ (List.mem_append_right _ h)
def wp_X5_waits (σ : Sg) (x1 : Int32) (Q : Sg → Int32 → Prop) : Prop := (wp_X5_isNode σ x1 (fun σ1 r2 => ((r2 = 0 → Q σ1 (-1)) ∧ (¬ (r2 = 0) → (vp_in x1 6 ∧ Q σ1 (σ1.1 28 0 (ix x1)))))))
abbrev rm_X5_waits : Room := { frames := 1, cells := 0, slots := 0, locals := 21 }
set_option maxHeartbeats 4000000 in
set_option maxRecDepth 100000 in
theorem c_X5_waits (l : Launch) {D : va_G} {P : List (Nat × Nat)} {ad : Nat × Nat → Nat} {cy : Nat → ClassId} (hAd : AdOk P ad) (hC : InM P) (σ : Sg) (x1 : Int32) (Q : Sg → Int32 → Prop) (h : wp_X5_waits σ x1 Q) : Met l yX5_waits wsX5_waits rm_X5_waits (xPc D P ad cy σ [.ref (ad (20, 0)), .int x1]) (va_Qi (fun r σ' => Q σ' r) (xB D P ad cy) (Aof P ad)) 0 0 (Aof P ad) := by
  refine Met.ofW (cc := cX5_waits) (maxL := 2) (ret := (some .int)) (by decide +kernel) rfl ?_
  intro p e s m args below meth c s₁ B hml hv
  obtain ⟨rfl, hP, hK⟩ := hv
  have hx := B.exec
  have hb := B.bytes
  have hr := B.returns
  have hts := atoms_spec (ws := wsX5_waits) B.pre
  have hown : s.vm.findClass RX5 = some m.cls := findClass_of_methodNamed B.named
  have hlocks := B.notSynchronized
  have hS : va_S (Aof P ad) s.heap s.heap [] := va_S.rf
  have hl := lv_entry ([.ref (ad (20, 0)), .int x1] : List Value) (n := 2) (Nat.le_of_ble_eq_true rfl)
  rw [lg_entry_eq]
  generalize (lg_sl ([.ref (ad (20, 0)), .int x1] : List Value) ++ List.replicate (2 - (lg_sl ([.ref (ad (20, 0)), .int x1] : List Value)).length) Slot.unset).toArray = ls at hl ⊢
  have hl : lv_has ls 2 [(0, .ref (ad (20, 0))), (1, .int x1)] := hl
  unfold wp_X5_waits at h
  refine lv_aload_n hx hb dX5_waits_0 rfl (lv_at hl 0 rfl) ?_
  refine lv_iload_n hx hb dX5_waits_1 rfl (lv_at hl 1 rfl) ?_
  refine x_cVi (C := RX5) (As := [.int x1]) (rest := []) ⟨hx, hb, hml, hown, hts⟩ hK hP hS (c_X5_isNode l hAd hC σ x1 _ h) (cwV 1 hts gX5_waits_X5_isNode rfl rfl rfl (by decide +kernel) ⟨Nat.le_of_ble_eq_true rfl, Nat.le_of_ble_eq_true rfl⟩) (x_recv hK hP (in1m hC (a := 20) (by decide) (by decide)) rfl rfl) rfl hl.1 rfl (Nat.le_of_ble_eq_true rfl) dX5_waits_2 ⟨Nat.zero_le _, Nat.zero_le _⟩ (fun r2 σ1 H locs h hP hS => ?_)
  refine lv_if_eq (tgt := 17) hx hb dX5_waits_5 (by decide) (fun c4 => ?_) (fun c4 => ?_)
  · have h := h.1 c4
    refine lv_iconst (v := (-1)) hx hb dX5_waits_17 (by decide) ?_
    exact W.iret (v := (-1)) hx hb hr (fun t ht hW => ⟨⟨(-1), σ1, rfl, h, by rw [ht]; exact hP, va_K.moved hW.alike hK⟩, hS.F ht⟩) hS.2.2 dX5_waits_18
  · have h := h.2 c4
    refine lv_aload_n hx hb dX5_waits_8 rfl (lv_at hl 0 rfl) ?_
    refine x_get (C := RX5) (T := TX5) (N := 25) (ci := 5) (a := 20) (k := 0) (v := .ref (ad (28, 0))) hx hb hts iw_X5_waits_X5 hown hK hP (in1m hC (a := 20) (by decide) (by decide)) rfl rfl 8 (by decide) (hts (.fieldLink RX5 33 "PageOwnersModel" "waits" "[I") (by decide +kernel)) (fun _ h9 => h9) rfl dX5_waits_9 ?_
    refine lv_iload_n hx hb dX5_waits_12 rfl (lv_at hl 1 rfl) ?_
    have hin5 := h.1
    have h := h.2
    refine x_iald (a := 28) (k := 0) (n := 6) hx hb hK hP (in1m hC (a := 28) (by decide) (by decide)) (fun _ => rfl) hin5 dX5_waits_13 ?_
    refine lv_goto (tgt := 18) hx hb dX5_waits_14 (by decide) ?_
    exact W.iret (v := (σ1.1 28 0 (ix x1))) hx hb hr (fun t ht hW => ⟨⟨(σ1.1 28 0 (ix x1)), σ1, rfl, h, by rw [ht]; exact hP, va_K.moved hW.alike hK⟩, hS.F ht⟩) hS.2.2 dX5_waits_18
theorem iw_X5_at_X5 : ∀ w ∈ wsX50, w ∈ wsX5_at := fun _ h => List.mem_cons_of_mem _ (List.mem_append_right _ h)
def wp_X5_at (σ : Sg) (x1 : Int32) (x2 : Int32) (Q : Sg → Int32 → Prop) : Prop := (wp_X5_isNode σ x1 (fun σ1 r2 => ((r2 = 0 → Q σ1 (-1)) ∧ (¬ (r2 = 0) → ((x2 = 4 → ((x2 = 0 → (vp_in x1 6 ∧ Q σ1 (σ1.1 29 0 (ix x1)))) ∧ (¬ (x2 = 0) → ((x2 = 1 → (vp_in x1 6 ∧ Q σ1 (σ1.1 30 0 (ix x1)))) ∧ (¬ (x2 = 1) → ((x2 = 2 → (vp_in x1 6 ∧ (((σ1.1 31 0 (ix x1)) = 0 → Q σ1 0) ∧ (¬ ((σ1.1 31 0 (ix x1)) = 0) → Q σ1 1)))) ∧ (¬ (x2 = 2) → ((x2 = 3 → (vp_in x1 6 ∧ (((σ1.1 28 0 (ix x1)) = 3 → (vp_in x1 6 ∧ Q σ1 (σ1.1 33 0 (ix x1)))) ∧ (¬ ((σ1.1 28 0 (ix x1)) = 3) → Q σ1 0)))) ∧ (¬ (x2 = 3) → ((x2 = 4 → (vp_in x1 6 ∧ Q σ1 (σ1.1 36 0 (ix x1)))) ∧ (¬ (x2 = 4) → Q σ1 (-1)))))))))))) ∧ (¬ (x2 = 4) → (vp_in x1 6 ∧ (((σ1.1 35 0 (ix x1)) = 0 → Q σ1 (-1)) ∧ (¬ ((σ1.1 35 0 (ix x1)) = 0) → ((x2 = 0 → (vp_in x1 6 ∧ Q σ1 (σ1.1 29 0 (ix x1)))) ∧ (¬ (x2 = 0) → ((x2 = 1 → (vp_in x1 6 ∧ Q σ1 (σ1.1 30 0 (ix x1)))) ∧ (¬ (x2 = 1) → ((x2 = 2 → (vp_in x1 6 ∧ (((σ1.1 31 0 (ix x1)) = 0 → Q σ1 0) ∧ (¬ ((σ1.1 31 0 (ix x1)) = 0) → Q σ1 1)))) ∧ (¬ (x2 = 2) → ((x2 = 3 → (vp_in x1 6 ∧ (((σ1.1 28 0 (ix x1)) = 3 → (vp_in x1 6 ∧ Q σ1 (σ1.1 33 0 (ix x1)))) ∧ (¬ ((σ1.1 28 0 (ix x1)) = 3) → Q σ1 0)))) ∧ (¬ (x2 = 3) → ((x2 = 4 → (vp_in x1 6 ∧ Q σ1 (σ1.1 36 0 (ix x1)))) ∧ (¬ (x2 = 4) → Q σ1 (-1))))))))))))))))))))
abbrev rm_X5_at : Room := { frames := 1, cells := 0, slots := 0, locals := 21 }
set_option maxHeartbeats 4000000 in
set_option maxRecDepth 100000 in
theorem c_X5_at (l : Launch) {D : va_G} {P : List (Nat × Nat)} {ad : Nat × Nat → Nat} {cy : Nat → ClassId} (hAd : AdOk P ad) (hC : InM P) (σ : Sg) (x1 : Int32) (x2 : Int32) (Q : Sg → Int32 → Prop) (h : wp_X5_at σ x1 x2 Q) : Met l yX5_at wsX5_at rm_X5_at (xPc D P ad cy σ [.ref (ad (20, 0)), .int x1, .int x2]) (va_Qi (fun r σ' => Q σ' r) (xB D P ad cy) (Aof P ad)) 0 0 (Aof P ad) := by
  refine Met.ofW (cc := cX5_at) (maxL := 3) (ret := (some .int)) (by decide +kernel) rfl ?_
  intro p e s m args below meth c s₁ B hml hv
  obtain ⟨rfl, hP, hK⟩ := hv
  have hx := B.exec
  have hb := B.bytes
  have hr := B.returns
  have hts := atoms_spec (ws := wsX5_at) B.pre
  have hown : s.vm.findClass RX5 = some m.cls := findClass_of_methodNamed B.named
  have hlocks := B.notSynchronized
  have hS : va_S (Aof P ad) s.heap s.heap [] := va_S.rf
  have hl := lv_entry ([.ref (ad (20, 0)), .int x1, .int x2] : List Value) (n := 3) (Nat.le_of_ble_eq_true rfl)
  rw [lg_entry_eq]
  generalize (lg_sl ([.ref (ad (20, 0)), .int x1, .int x2] : List Value) ++ List.replicate (3 - (lg_sl ([.ref (ad (20, 0)), .int x1, .int x2] : List Value)).length) Slot.unset).toArray = ls at hl ⊢
  have hl : lv_has ls 3 [(0, .ref (ad (20, 0))), (1, .int x1), (2, .int x2)] := hl
  unfold wp_X5_at at h
  refine lv_aload_n hx hb dX5_at_0 rfl (lv_at hl 0 rfl) ?_
  refine lv_iload_n hx hb dX5_at_1 rfl (lv_at hl 1 rfl) ?_
  refine x_cVi (C := RX5) (As := [.int x1]) (rest := []) ⟨hx, hb, hml, hown, hts⟩ hK hP hS (c_X5_isNode l hAd hC σ x1 _ h) (cwV 1 hts gX5_at_X5_isNode rfl rfl rfl (by decide +kernel) ⟨Nat.le_of_ble_eq_true rfl, Nat.le_of_ble_eq_true rfl⟩) (x_recv hK hP (in1m hC (a := 20) (by decide) (by decide)) rfl rfl) rfl hl.1 rfl (Nat.le_of_ble_eq_true rfl) dX5_at_2 ⟨Nat.zero_le _, Nat.zero_le _⟩ (fun r2 σ1 H locs h hP hS => ?_)
  refine lv_if_eq (tgt := 22) hx hb dX5_at_5 (by decide) (fun c4 => ?_) (fun c4 => ?_)
  · have h := h.1 c4
    refine lv_iconst (v := (-1)) hx hb dX5_at_22 (by decide) ?_
    exact W.iret (v := (-1)) hx hb hr (fun t ht hW => ⟨⟨(-1), σ1, rfl, h, by rw [ht]; exact hP, va_K.moved hW.alike hK⟩, hS.F ht⟩) hS.2.2 dX5_at_23
  · have h := h.2 c4
    refine lv_iload_n hx hb dX5_at_8 rfl (lv_at hl 2 rfl) ?_
    refine lv_iconst (v := 4) hx hb dX5_at_9 (by decide) ?_
    refine lv_icmp_eq (tgt := 24) hx hb dX5_at_10 (by decide) (fun c5 => ?_) (fun c5 => ?_)
    · have h := h.1 c5
      refine lv_iload_n hx hb dX5_at_24 rfl (lv_at hl 2 rfl) ?_
      by_cases c6 : x2 = 0
      · have h := h.1 c6
        refine lv_tableIn (off := 35) (tgt := 60) hx hb dX5_at_25 (by rw [c6]; decide) (by rw [c6]; decide) (by rw [c6]; decide +kernel) (by decide) ?_
        refine lv_aload_n hx hb dX5_at_60 rfl (lv_at hl 0 rfl) ?_
        refine x_get (C := RX5) (T := TX5) (N := 25) (ci := 5) (a := 20) (k := 0) (v := .ref (ad (29, 0))) hx hb hts iw_X5_at_X5 hown hK hP (in1m hC (a := 20) (by decide) (by decide)) rfl rfl 9 (by decide) (hts (.fieldLink RX5 36 "PageOwnersModel" "page" "[I") (by decide +kernel)) (fun _ h9 => h9) rfl dX5_at_61 ?_
        refine lv_iload_n hx hb dX5_at_64 rfl (lv_at hl 1 rfl) ?_
        have hin7 := h.1
        have h := h.2
        refine x_iald (a := 29) (k := 0) (n := 6) hx hb hK hP (in1m hC (a := 29) (by decide) (by decide)) (fun _ => rfl) hin7 dX5_at_65 ?_
        exact W.iret (v := (σ1.1 29 0 (ix x1))) hx hb hr (fun t ht hW => ⟨⟨(σ1.1 29 0 (ix x1)), σ1, rfl, h, by rw [ht]; exact hP, va_K.moved hW.alike hK⟩, hS.F ht⟩) hS.2.2 dX5_at_66
      · have h := h.2 c6
        by_cases c8 : x2 = 1
        · have h := h.1 c8
          refine lv_tableIn (off := 42) (tgt := 67) hx hb dX5_at_25 (by rw [c8]; decide) (by rw [c8]; decide) (by rw [c8]; decide +kernel) (by decide) ?_
          refine lv_aload_n hx hb dX5_at_67 rfl (lv_at hl 0 rfl) ?_
          refine x_get (C := RX5) (T := TX5) (N := 25) (ci := 5) (a := 20) (k := 0) (v := .ref (ad (30, 0))) hx hb hts iw_X5_at_X5 hown hK hP (in1m hC (a := 20) (by decide) (by decide)) rfl rfl 10 (by decide) (hts (.fieldLink RX5 39 "PageOwnersModel" "word" "[I") (by decide +kernel)) (fun _ h9 => h9) rfl dX5_at_68 ?_
          refine lv_iload_n hx hb dX5_at_71 rfl (lv_at hl 1 rfl) ?_
          have hin9 := h.1
          have h := h.2
          refine x_iald (a := 30) (k := 0) (n := 6) hx hb hK hP (in1m hC (a := 30) (by decide) (by decide)) (fun _ => rfl) hin9 dX5_at_72 ?_
          exact W.iret (v := (σ1.1 30 0 (ix x1))) hx hb hr (fun t ht hW => ⟨⟨(σ1.1 30 0 (ix x1)), σ1, rfl, h, by rw [ht]; exact hP, va_K.moved hW.alike hK⟩, hS.F ht⟩) hS.2.2 dX5_at_73
        · have h := h.2 c8
          by_cases c10 : x2 = 2
          · have h := h.1 c10
            refine lv_tableIn (off := 49) (tgt := 74) hx hb dX5_at_25 (by rw [c10]; decide) (by rw [c10]; decide) (by rw [c10]; decide +kernel) (by decide) ?_
            refine lv_aload_n hx hb dX5_at_74 rfl (lv_at hl 0 rfl) ?_
            refine x_get (C := RX5) (T := TX5) (N := 25) (ci := 5) (a := 20) (k := 0) (v := .ref (ad (31, 0))) hx hb hts iw_X5_at_X5 hown hK hP (in1m hC (a := 20) (by decide) (by decide)) rfl rfl 11 (by decide) (hts (.fieldLink RX5 42 "PageOwnersModel" "isWrite" "[Z") (by decide +kernel)) (fun _ h9 => h9) rfl dX5_at_75 ?_
            refine lv_iload_n hx hb dX5_at_78 rfl (lv_at hl 1 rfl) ?_
            have hin11 := h.1
            have h := h.2
            refine x_zald (a := 31) (k := 0) (n := 6) hx hb hK hP (in1m hC (a := 31) (by decide) (by decide)) (fun _ => rfl) hin11 dX5_at_79 ?_
            refine lv_if_eq (tgt := 87) hx hb dX5_at_80 (by decide) (fun c12 => ?_) (fun c12 => ?_)
            · have h := h.1 c12
              refine lv_iconst (v := 0) hx hb dX5_at_87 (by decide) ?_
              exact W.iret (v := 0) hx hb hr (fun t ht hW => ⟨⟨0, σ1, rfl, h, by rw [ht]; exact hP, va_K.moved hW.alike hK⟩, hS.F ht⟩) hS.2.2 dX5_at_88
            · have h := h.2 c12
              refine lv_iconst (v := 1) hx hb dX5_at_83 (by decide) ?_
              refine lv_goto (tgt := 88) hx hb dX5_at_84 (by decide) ?_
              exact W.iret (v := 1) hx hb hr (fun t ht hW => ⟨⟨1, σ1, rfl, h, by rw [ht]; exact hP, va_K.moved hW.alike hK⟩, hS.F ht⟩) hS.2.2 dX5_at_88
          · have h := h.2 c10
            by_cases c13 : x2 = 3
            · have h := h.1 c13
              refine lv_tableIn (off := 64) (tgt := 89) hx hb dX5_at_25 (by rw [c13]; decide) (by rw [c13]; decide) (by rw [c13]; decide +kernel) (by decide) ?_
              refine lv_aload_n hx hb dX5_at_89 rfl (lv_at hl 0 rfl) ?_
              refine x_get (C := RX5) (T := TX5) (N := 25) (ci := 5) (a := 20) (k := 0) (v := .ref (ad (28, 0))) hx hb hts iw_X5_at_X5 hown hK hP (in1m hC (a := 20) (by decide) (by decide)) rfl rfl 8 (by decide) (hts (.fieldLink RX5 33 "PageOwnersModel" "waits" "[I") (by decide +kernel)) (fun _ h9 => h9) rfl dX5_at_90 ?_
              refine lv_iload_n hx hb dX5_at_93 rfl (lv_at hl 1 rfl) ?_
              have hin14 := h.1
              have h := h.2
              refine x_iald (a := 28) (k := 0) (n := 6) hx hb hK hP (in1m hC (a := 28) (by decide) (by decide)) (fun _ => rfl) hin14 dX5_at_94 ?_
              refine lv_iconst (v := 3) hx hb dX5_at_95 (by decide) ?_
              refine lv_icmp_ne (tgt := 108) hx hb dX5_at_96 (by decide) (fun c15 => ?_) (fun c15 => ?_)
              · have h := h.2 c15
                refine lv_iconst (v := 0) hx hb dX5_at_108 (by decide) ?_
                exact W.iret (v := 0) hx hb hr (fun t ht hW => ⟨⟨0, σ1, rfl, h, by rw [ht]; exact hP, va_K.moved hW.alike hK⟩, hS.F ht⟩) hS.2.2 dX5_at_109
              · have h := h.1 c15
                refine lv_aload_n hx hb dX5_at_99 rfl (lv_at hl 0 rfl) ?_
                refine x_get (C := RX5) (T := TX5) (N := 25) (ci := 5) (a := 20) (k := 0) (v := .ref (ad (33, 0))) hx hb hts iw_X5_at_X5 hown hK hP (in1m hC (a := 20) (by decide) (by decide)) rfl rfl 13 (by decide) (hts (.fieldLink RX5 48 "PageOwnersModel" "answers" "[I") (by decide +kernel)) (fun _ h9 => h9) rfl dX5_at_100 ?_
                refine lv_iload_n hx hb dX5_at_103 rfl (lv_at hl 1 rfl) ?_
                have hin16 := h.1
                have h := h.2
                refine x_iald (a := 33) (k := 0) (n := 6) hx hb hK hP (in1m hC (a := 33) (by decide) (by decide)) (fun _ => rfl) hin16 dX5_at_104 ?_
                refine lv_goto (tgt := 109) hx hb dX5_at_105 (by decide) ?_
                exact W.iret (v := (σ1.1 33 0 (ix x1))) hx hb hr (fun t ht hW => ⟨⟨(σ1.1 33 0 (ix x1)), σ1, rfl, h, by rw [ht]; exact hP, va_K.moved hW.alike hK⟩, hS.F ht⟩) hS.2.2 dX5_at_109
            · have h := h.2 c13
              by_cases c17 : x2 = 4
              · have h := h.1 c17
                refine lv_tableIn (off := 85) (tgt := 110) hx hb dX5_at_25 (by rw [c17]; decide) (by rw [c17]; decide) (by rw [c17]; decide +kernel) (by decide) ?_
                refine lv_aload_n hx hb dX5_at_110 rfl (lv_at hl 0 rfl) ?_
                refine x_get (C := RX5) (T := TX5) (N := 25) (ci := 5) (a := 20) (k := 0) (v := .ref (ad (36, 0))) hx hb hts iw_X5_at_X5 hown hK hP (in1m hC (a := 20) (by decide) (by decide)) rfl rfl 16 (by decide) (hts (.fieldLink RX5 57 "PageOwnersModel" "done" "[I") (by decide +kernel)) (fun _ h9 => h9) rfl dX5_at_111 ?_
                refine lv_iload_n hx hb dX5_at_114 rfl (lv_at hl 1 rfl) ?_
                have hin18 := h.1
                have h := h.2
                refine x_iald (a := 36) (k := 0) (n := 6) hx hb hK hP (in1m hC (a := 36) (by decide) (by decide)) (fun _ => rfl) hin18 dX5_at_115 ?_
                exact W.iret (v := (σ1.1 36 0 (ix x1))) hx hb hr (fun t ht hW => ⟨⟨(σ1.1 36 0 (ix x1)), σ1, rfl, h, by rw [ht]; exact hP, va_K.moved hW.alike hK⟩, hS.F ht⟩) hS.2.2 dX5_at_116
              · have h := h.2 c17
                have n19 : x2.toInt < 0 ∨ 4 < x2.toInt := by
                  have := lv_neT (k := 0) (a := 0) c6 rfl
                  have := lv_neT (k := 1) (a := 1) c8 rfl
                  have := lv_neT (k := 2) (a := 2) c10 rfl
                  have := lv_neT (k := 3) (a := 3) c13 rfl
                  have := lv_neT (k := 4) (a := 4) c17 rfl
                  omega
                refine lv_tableOut (tgt := 117) hx hb dX5_at_25 n19 (by decide) ?_
                refine lv_iconst (v := (-1)) hx hb dX5_at_117 (by decide) ?_
                exact W.iret (v := (-1)) hx hb hr (fun t ht hW => ⟨⟨(-1), σ1, rfl, h, by rw [ht]; exact hP, va_K.moved hW.alike hK⟩, hS.F ht⟩) hS.2.2 dX5_at_118
    · have h := h.2 c5
      refine lv_aload_n hx hb dX5_at_13 rfl (lv_at hl 0 rfl) ?_
      refine x_get (C := RX5) (T := TX5) (N := 25) (ci := 5) (a := 20) (k := 0) (v := .ref (ad (35, 0))) hx hb hts iw_X5_at_X5 hown hK hP (in1m hC (a := 20) (by decide) (by decide)) rfl rfl 15 (by decide) (hts (.fieldLink RX5 54 "PageOwnersModel" "hadOne" "[Z") (by decide +kernel)) (fun _ h9 => h9) rfl dX5_at_14 ?_
      refine lv_iload_n hx hb dX5_at_17 rfl (lv_at hl 1 rfl) ?_
      have hin20 := h.1
      have h := h.2
      refine x_zald (a := 35) (k := 0) (n := 6) hx hb hK hP (in1m hC (a := 35) (by decide) (by decide)) (fun _ => rfl) hin20 dX5_at_18 ?_
      refine lv_if_ne (tgt := 24) hx hb dX5_at_19 (by decide) (fun c21 => ?_) (fun c21 => ?_)
      · have h := h.2 c21
        refine lv_iload_n hx hb dX5_at_24 rfl (lv_at hl 2 rfl) ?_
        by_cases c22 : x2 = 0
        · have h := h.1 c22
          refine lv_tableIn (off := 35) (tgt := 60) hx hb dX5_at_25 (by rw [c22]; decide) (by rw [c22]; decide) (by rw [c22]; decide +kernel) (by decide) ?_
          refine lv_aload_n hx hb dX5_at_60 rfl (lv_at hl 0 rfl) ?_
          refine x_get (C := RX5) (T := TX5) (N := 25) (ci := 5) (a := 20) (k := 0) (v := .ref (ad (29, 0))) hx hb hts iw_X5_at_X5 hown hK hP (in1m hC (a := 20) (by decide) (by decide)) rfl rfl 9 (by decide) (hts (.fieldLink RX5 36 "PageOwnersModel" "page" "[I") (by decide +kernel)) (fun _ h9 => h9) rfl dX5_at_61 ?_
          refine lv_iload_n hx hb dX5_at_64 rfl (lv_at hl 1 rfl) ?_
          have hin23 := h.1
          have h := h.2
          refine x_iald (a := 29) (k := 0) (n := 6) hx hb hK hP (in1m hC (a := 29) (by decide) (by decide)) (fun _ => rfl) hin23 dX5_at_65 ?_
          exact W.iret (v := (σ1.1 29 0 (ix x1))) hx hb hr (fun t ht hW => ⟨⟨(σ1.1 29 0 (ix x1)), σ1, rfl, h, by rw [ht]; exact hP, va_K.moved hW.alike hK⟩, hS.F ht⟩) hS.2.2 dX5_at_66
        · have h := h.2 c22
          by_cases c24 : x2 = 1
          · have h := h.1 c24
            refine lv_tableIn (off := 42) (tgt := 67) hx hb dX5_at_25 (by rw [c24]; decide) (by rw [c24]; decide) (by rw [c24]; decide +kernel) (by decide) ?_
            refine lv_aload_n hx hb dX5_at_67 rfl (lv_at hl 0 rfl) ?_
            refine x_get (C := RX5) (T := TX5) (N := 25) (ci := 5) (a := 20) (k := 0) (v := .ref (ad (30, 0))) hx hb hts iw_X5_at_X5 hown hK hP (in1m hC (a := 20) (by decide) (by decide)) rfl rfl 10 (by decide) (hts (.fieldLink RX5 39 "PageOwnersModel" "word" "[I") (by decide +kernel)) (fun _ h9 => h9) rfl dX5_at_68 ?_
            refine lv_iload_n hx hb dX5_at_71 rfl (lv_at hl 1 rfl) ?_
            have hin25 := h.1
            have h := h.2
            refine x_iald (a := 30) (k := 0) (n := 6) hx hb hK hP (in1m hC (a := 30) (by decide) (by decide)) (fun _ => rfl) hin25 dX5_at_72 ?_
            exact W.iret (v := (σ1.1 30 0 (ix x1))) hx hb hr (fun t ht hW => ⟨⟨(σ1.1 30 0 (ix x1)), σ1, rfl, h, by rw [ht]; exact hP, va_K.moved hW.alike hK⟩, hS.F ht⟩) hS.2.2 dX5_at_73
          · have h := h.2 c24
            by_cases c26 : x2 = 2
            · have h := h.1 c26
              refine lv_tableIn (off := 49) (tgt := 74) hx hb dX5_at_25 (by rw [c26]; decide) (by rw [c26]; decide) (by rw [c26]; decide +kernel) (by decide) ?_
              refine lv_aload_n hx hb dX5_at_74 rfl (lv_at hl 0 rfl) ?_
              refine x_get (C := RX5) (T := TX5) (N := 25) (ci := 5) (a := 20) (k := 0) (v := .ref (ad (31, 0))) hx hb hts iw_X5_at_X5 hown hK hP (in1m hC (a := 20) (by decide) (by decide)) rfl rfl 11 (by decide) (hts (.fieldLink RX5 42 "PageOwnersModel" "isWrite" "[Z") (by decide +kernel)) (fun _ h9 => h9) rfl dX5_at_75 ?_
              refine lv_iload_n hx hb dX5_at_78 rfl (lv_at hl 1 rfl) ?_
              have hin27 := h.1
              have h := h.2
              refine x_zald (a := 31) (k := 0) (n := 6) hx hb hK hP (in1m hC (a := 31) (by decide) (by decide)) (fun _ => rfl) hin27 dX5_at_79 ?_
              refine lv_if_eq (tgt := 87) hx hb dX5_at_80 (by decide) (fun c28 => ?_) (fun c28 => ?_)
              · have h := h.1 c28
                refine lv_iconst (v := 0) hx hb dX5_at_87 (by decide) ?_
                exact W.iret (v := 0) hx hb hr (fun t ht hW => ⟨⟨0, σ1, rfl, h, by rw [ht]; exact hP, va_K.moved hW.alike hK⟩, hS.F ht⟩) hS.2.2 dX5_at_88
              · have h := h.2 c28
                refine lv_iconst (v := 1) hx hb dX5_at_83 (by decide) ?_
                refine lv_goto (tgt := 88) hx hb dX5_at_84 (by decide) ?_
                exact W.iret (v := 1) hx hb hr (fun t ht hW => ⟨⟨1, σ1, rfl, h, by rw [ht]; exact hP, va_K.moved hW.alike hK⟩, hS.F ht⟩) hS.2.2 dX5_at_88
            · have h := h.2 c26
              by_cases c29 : x2 = 3
              · have h := h.1 c29
                refine lv_tableIn (off := 64) (tgt := 89) hx hb dX5_at_25 (by rw [c29]; decide) (by rw [c29]; decide) (by rw [c29]; decide +kernel) (by decide) ?_
                refine lv_aload_n hx hb dX5_at_89 rfl (lv_at hl 0 rfl) ?_
                refine x_get (C := RX5) (T := TX5) (N := 25) (ci := 5) (a := 20) (k := 0) (v := .ref (ad (28, 0))) hx hb hts iw_X5_at_X5 hown hK hP (in1m hC (a := 20) (by decide) (by decide)) rfl rfl 8 (by decide) (hts (.fieldLink RX5 33 "PageOwnersModel" "waits" "[I") (by decide +kernel)) (fun _ h9 => h9) rfl dX5_at_90 ?_
                refine lv_iload_n hx hb dX5_at_93 rfl (lv_at hl 1 rfl) ?_
                have hin30 := h.1
                have h := h.2
                refine x_iald (a := 28) (k := 0) (n := 6) hx hb hK hP (in1m hC (a := 28) (by decide) (by decide)) (fun _ => rfl) hin30 dX5_at_94 ?_
                refine lv_iconst (v := 3) hx hb dX5_at_95 (by decide) ?_
                refine lv_icmp_ne (tgt := 108) hx hb dX5_at_96 (by decide) (fun c31 => ?_) (fun c31 => ?_)
                · have h := h.2 c31
                  refine lv_iconst (v := 0) hx hb dX5_at_108 (by decide) ?_
                  exact W.iret (v := 0) hx hb hr (fun t ht hW => ⟨⟨0, σ1, rfl, h, by rw [ht]; exact hP, va_K.moved hW.alike hK⟩, hS.F ht⟩) hS.2.2 dX5_at_109
                · have h := h.1 c31
                  refine lv_aload_n hx hb dX5_at_99 rfl (lv_at hl 0 rfl) ?_
                  refine x_get (C := RX5) (T := TX5) (N := 25) (ci := 5) (a := 20) (k := 0) (v := .ref (ad (33, 0))) hx hb hts iw_X5_at_X5 hown hK hP (in1m hC (a := 20) (by decide) (by decide)) rfl rfl 13 (by decide) (hts (.fieldLink RX5 48 "PageOwnersModel" "answers" "[I") (by decide +kernel)) (fun _ h9 => h9) rfl dX5_at_100 ?_
                  refine lv_iload_n hx hb dX5_at_103 rfl (lv_at hl 1 rfl) ?_
                  have hin32 := h.1
                  have h := h.2
                  refine x_iald (a := 33) (k := 0) (n := 6) hx hb hK hP (in1m hC (a := 33) (by decide) (by decide)) (fun _ => rfl) hin32 dX5_at_104 ?_
                  refine lv_goto (tgt := 109) hx hb dX5_at_105 (by decide) ?_
                  exact W.iret (v := (σ1.1 33 0 (ix x1))) hx hb hr (fun t ht hW => ⟨⟨(σ1.1 33 0 (ix x1)), σ1, rfl, h, by rw [ht]; exact hP, va_K.moved hW.alike hK⟩, hS.F ht⟩) hS.2.2 dX5_at_109
              · have h := h.2 c29
                by_cases c33 : x2 = 4
                · have h := h.1 c33
                  refine lv_tableIn (off := 85) (tgt := 110) hx hb dX5_at_25 (by rw [c33]; decide) (by rw [c33]; decide) (by rw [c33]; decide +kernel) (by decide) ?_
                  refine lv_aload_n hx hb dX5_at_110 rfl (lv_at hl 0 rfl) ?_
                  refine x_get (C := RX5) (T := TX5) (N := 25) (ci := 5) (a := 20) (k := 0) (v := .ref (ad (36, 0))) hx hb hts iw_X5_at_X5 hown hK hP (in1m hC (a := 20) (by decide) (by decide)) rfl rfl 16 (by decide) (hts (.fieldLink RX5 57 "PageOwnersModel" "done" "[I") (by decide +kernel)) (fun _ h9 => h9) rfl dX5_at_111 ?_
                  refine lv_iload_n hx hb dX5_at_114 rfl (lv_at hl 1 rfl) ?_
                  have hin34 := h.1
                  have h := h.2
                  refine x_iald (a := 36) (k := 0) (n := 6) hx hb hK hP (in1m hC (a := 36) (by decide) (by decide)) (fun _ => rfl) hin34 dX5_at_115 ?_
                  exact W.iret (v := (σ1.1 36 0 (ix x1))) hx hb hr (fun t ht hW => ⟨⟨(σ1.1 36 0 (ix x1)), σ1, rfl, h, by rw [ht]; exact hP, va_K.moved hW.alike hK⟩, hS.F ht⟩) hS.2.2 dX5_at_116
                · have h := h.2 c33
                  have n35 : x2.toInt < 0 ∨ 4 < x2.toInt := by
                    have := lv_neT (k := 0) (a := 0) c22 rfl
                    have := lv_neT (k := 1) (a := 1) c24 rfl
                    have := lv_neT (k := 2) (a := 2) c26 rfl
                    have := lv_neT (k := 3) (a := 3) c29 rfl
                    have := lv_neT (k := 4) (a := 4) c33 rfl
                    omega
                  refine lv_tableOut (tgt := 117) hx hb dX5_at_25 n35 (by decide) ?_
                  refine lv_iconst (v := (-1)) hx hb dX5_at_117 (by decide) ?_
                  exact W.iret (v := (-1)) hx hb hr (fun t ht hW => ⟨⟨(-1), σ1, rfl, h, by rw [ht]; exact hP, va_K.moved hW.alike hK⟩, hS.F ht⟩) hS.2.2 dX5_at_118
      · have h := h.1 c21
        refine lv_iconst (v := (-1)) hx hb dX5_at_22 (by decide) ?_
        exact W.iret (v := (-1)) hx hb hr (fun t ht hW => ⟨⟨(-1), σ1, rfl, h, by rw [ht]; exact hP, va_K.moved hW.alike hK⟩, hS.F ht⟩) hS.2.2 dX5_at_23
theorem iw_X5_result_X5 : ∀ w ∈ wsX50, w ∈ wsX5_result := fun _ h => List.mem_cons_of_mem _ (List.mem_append_right _ h)
def wp_X5_result (σ : Sg) (x1 : Int32) (Q : Sg → Int64 → Prop) : Prop := (wp_X5_isNode σ x1 (fun σ1 r2 => ((r2 = 0 → Q σ1 0) ∧ (¬ (r2 = 0) → (vp_in x1 6 ∧ Q σ1 (σ1.2.1 37 0 (ix x1)))))))
abbrev rm_X5_result : Room := { frames := 1, cells := 0, slots := 0, locals := 21 }
set_option maxHeartbeats 4000000 in
set_option maxRecDepth 100000 in
theorem c_X5_result (l : Launch) {D : va_G} {P : List (Nat × Nat)} {ad : Nat × Nat → Nat} {cy : Nat → ClassId} (hAd : AdOk P ad) (hC : InM P) (σ : Sg) (x1 : Int32) (Q : Sg → Int64 → Prop) (h : wp_X5_result σ x1 Q) : Met l yX5_result wsX5_result rm_X5_result (xPc D P ad cy σ [.ref (ad (20, 0)), .int x1]) (va_Ql (fun r σ' => Q σ' r) (xB D P ad cy) (Aof P ad)) 0 0 (Aof P ad) := by
  refine Met.ofW (cc := cX5_result) (maxL := 2) (ret := (some .long)) (by decide +kernel) rfl ?_
  intro p e s m args below meth c s₁ B hml hv
  obtain ⟨rfl, hP, hK⟩ := hv
  have hx := B.exec
  have hb := B.bytes
  have hr := B.returns
  have hts := atoms_spec (ws := wsX5_result) B.pre
  have hown : s.vm.findClass RX5 = some m.cls := findClass_of_methodNamed B.named
  have hlocks := B.notSynchronized
  have hS : va_S (Aof P ad) s.heap s.heap [] := va_S.rf
  have hl := lv_entry ([.ref (ad (20, 0)), .int x1] : List Value) (n := 2) (Nat.le_of_ble_eq_true rfl)
  rw [lg_entry_eq]
  generalize (lg_sl ([.ref (ad (20, 0)), .int x1] : List Value) ++ List.replicate (2 - (lg_sl ([.ref (ad (20, 0)), .int x1] : List Value)).length) Slot.unset).toArray = ls at hl ⊢
  have hl : lv_has ls 2 [(0, .ref (ad (20, 0))), (1, .int x1)] := hl
  unfold wp_X5_result at h
  refine lv_aload_n hx hb dX5_result_0 rfl (lv_at hl 0 rfl) ?_
  refine lv_iload_n hx hb dX5_result_1 rfl (lv_at hl 1 rfl) ?_
  refine x_cVi (C := RX5) (As := [.int x1]) (rest := []) ⟨hx, hb, hml, hown, hts⟩ hK hP hS (c_X5_isNode l hAd hC σ x1 _ h) (cwV 1 hts gX5_result_X5_isNode rfl rfl rfl (by decide +kernel) ⟨Nat.le_of_ble_eq_true rfl, Nat.le_of_ble_eq_true rfl⟩) (x_recv hK hP (in1m hC (a := 20) (by decide) (by decide)) rfl rfl) rfl hl.1 rfl (Nat.le_of_ble_eq_true rfl) dX5_result_2 ⟨Nat.zero_le _, Nat.zero_le _⟩ (fun r2 σ1 H locs h hP hS => ?_)
  refine lv_if_eq (tgt := 17) hx hb dX5_result_5 (by decide) (fun c4 => ?_) (fun c4 => ?_)
  · have h := h.1 c4
    refine lv_lconst (v := 0) hx hb dX5_result_17 (by decide) ?_
    exact W.lret (v := 0) hx hb hr (fun t ht hW => ⟨⟨0, σ1, rfl, h, by rw [ht]; exact hP, va_K.moved hW.alike hK⟩, hS.F ht⟩) hS.2.2 dX5_result_18
  · have h := h.2 c4
    refine lv_aload_n hx hb dX5_result_8 rfl (lv_at hl 0 rfl) ?_
    refine x_get (C := RX5) (T := TX5) (N := 25) (ci := 5) (a := 20) (k := 0) (v := .ref (ad (37, 0))) hx hb hts iw_X5_result_X5 hown hK hP (in1m hC (a := 20) (by decide) (by decide)) rfl rfl 17 (by decide) (hts (.fieldLink RX5 60 "PageOwnersModel" "result" "[J") (by decide +kernel)) (fun _ h9 => h9) rfl dX5_result_9 ?_
    refine lv_iload_n hx hb dX5_result_12 rfl (lv_at hl 1 rfl) ?_
    have hin5 := h.1
    have h := h.2
    refine x_lald (a := 37) (k := 0) (n := 6) hx hb hK hP (in1m hC (a := 37) (by decide) (by decide)) (fun _ => rfl) hin5 dX5_result_13 ?_
    refine lv_goto (tgt := 18) hx hb dX5_result_14 (by decide) ?_
    exact W.lret (v := (σ1.2.1 37 0 (ix x1))) hx hb hr (fun t ht hW => ⟨⟨(σ1.2.1 37 0 (ix x1)), σ1, rfl, h, by rw [ht]; exact hP, va_K.moved hW.alike hK⟩, hS.F ht⟩) hS.2.2 dX5_result_18
def wp_X5_isPlace (σ : Sg) (x1 : Int32) (x2 : Int32) (Q : Sg → Int32 → Prop) : Prop := (wp_X5_isNode σ x1 (fun σ1 r2 => ((r2 = 0 → (Q σ1 0)) ∧ (¬ (r2 = 0) → (wp_X5_isPage σ1 x2 (fun σ5 r6 => ((r6 = 0 → (Q σ5 0)) ∧ (¬ (r6 = 0) → (Q σ5 1)))))))))
abbrev rm_X5_isPlace : Room := { frames := 1, cells := 0, slots := 0, locals := 21 }
set_option maxHeartbeats 4000000 in
set_option maxRecDepth 100000 in
theorem c_X5_isPlace (l : Launch) {D : va_G} {P : List (Nat × Nat)} {ad : Nat × Nat → Nat} {cy : Nat → ClassId} (hAd : AdOk P ad) (hC : InM P) (σ : Sg) (x1 : Int32) (x2 : Int32) (Q : Sg → Int32 → Prop) (h : wp_X5_isPlace σ x1 x2 Q) : Met l yX5_isPlace wsX5_isPlace rm_X5_isPlace (xPc D P ad cy σ [.ref (ad (20, 0)), .int x1, .int x2]) (va_Qi (fun r σ' => Q σ' r) (xB D P ad cy) (Aof P ad)) 0 0 (Aof P ad) := by
  refine Met.ofW (cc := cX5_isPlace) (maxL := 3) (ret := (some .boolean)) (by decide +kernel) rfl ?_
  intro p e s m args below meth c s₁ B hml hv
  obtain ⟨rfl, hP, hK⟩ := hv
  have hx := B.exec
  have hb := B.bytes
  have hr := B.returns
  have hts := atoms_spec (ws := wsX5_isPlace) B.pre
  have hown : s.vm.findClass RX5 = some m.cls := findClass_of_methodNamed B.named
  have hlocks := B.notSynchronized
  have hS : va_S (Aof P ad) s.heap s.heap [] := va_S.rf
  have hl := lv_entry ([.ref (ad (20, 0)), .int x1, .int x2] : List Value) (n := 3) (Nat.le_of_ble_eq_true rfl)
  rw [lg_entry_eq]
  generalize (lg_sl ([.ref (ad (20, 0)), .int x1, .int x2] : List Value) ++ List.replicate (3 - (lg_sl ([.ref (ad (20, 0)), .int x1, .int x2] : List Value)).length) Slot.unset).toArray = ls at hl ⊢
  have hl : lv_has ls 3 [(0, .ref (ad (20, 0))), (1, .int x1), (2, .int x2)] := hl
  unfold wp_X5_isPlace at h
  refine lv_aload_n hx hb dX5_isPlace_0 rfl (lv_at hl 0 rfl) ?_
  refine lv_iload_n hx hb dX5_isPlace_1 rfl (lv_at hl 1 rfl) ?_
  refine x_cVi (C := RX5) (As := [.int x1]) (rest := []) ⟨hx, hb, hml, hown, hts⟩ hK hP hS (c_X5_isNode l hAd hC σ x1 _ h) (cwV 1 hts gX5_isPlace_X5_isNode rfl rfl rfl (by decide +kernel) ⟨Nat.le_of_ble_eq_true rfl, Nat.le_of_ble_eq_true rfl⟩) (x_recv hK hP (in1m hC (a := 20) (by decide) (by decide)) rfl rfl) rfl hl.1 rfl (Nat.le_of_ble_eq_true rfl) dX5_isPlace_2 ⟨Nat.zero_le _, Nat.zero_le _⟩ (fun r2 σ1 H locs h hP hS => ?_)
  refine lv_if_eq (tgt := 19) hx hb dX5_isPlace_5 (by decide) (fun c4 => ?_) (fun c4 => ?_)
  · have h := h.1 c4
    refine lv_iconst (v := 0) hx hb dX5_isPlace_19 (by decide) ?_
    exact W.zret (v := 0) hx hb hr rfl (fun t ht hW => ⟨⟨0, σ1, rfl, h, by rw [ht]; exact hP, va_K.moved hW.alike hK⟩, hS.F ht⟩) hS.2.2 dX5_isPlace_20
  · have h := h.2 c4
    refine lv_iload_n hx hb dX5_isPlace_8 rfl (lv_at hl 2 rfl) ?_
    refine x_cSi (As := [.int x2]) (rest := []) ⟨hx, hb, hml, hown, hts⟩ hK hP hS (c_X5_isPage l hAd hC σ1 x2 _ h) (va_cwS 1 hts gX5_isPlace_X5_isPage rfl rfl rfl (by decide +kernel) ⟨Nat.le_of_ble_eq_true rfl, Nat.le_of_ble_eq_true rfl⟩) rfl hl.1 rfl (Nat.le_of_ble_eq_true rfl) dX5_isPlace_9 ⟨Nat.zero_le _, Nat.zero_le _⟩ (fun r6 σ5 H locs h hP hS => ?_)
    refine lv_if_eq (tgt := 19) hx hb dX5_isPlace_12 (by decide) (fun c8 => ?_) (fun c8 => ?_)
    · have h := h.1 c8
      refine lv_iconst (v := 0) hx hb dX5_isPlace_19 (by decide) ?_
      exact W.zret (v := 0) hx hb hr rfl (fun t ht hW => ⟨⟨0, σ5, rfl, h, by rw [ht]; exact hP, va_K.moved hW.alike hK⟩, hS.F ht⟩) hS.2.2 dX5_isPlace_20
    · have h := h.2 c8
      refine lv_iconst (v := 1) hx hb dX5_isPlace_15 (by decide) ?_
      refine lv_goto (tgt := 20) hx hb dX5_isPlace_16 (by decide) ?_
      exact W.zret (v := 1) hx hb hr rfl (fun t ht hW => ⟨⟨1, σ5, rfl, h, by rw [ht]; exact hP, va_K.moved hW.alike hK⟩, hS.F ht⟩) hS.2.2 dX5_isPlace_20
theorem iw_X5_access_X5 : ∀ w ∈ wsX50, w ∈ wsX5_access := fun _ h => List.mem_cons_of_mem _ (List.mem_append_right _ h)
def wp_X5_access (σ : Sg) (x1 : Int32) (x2 : Int32) (Q : Sg → Int32 → Prop) : Prop := (wp_X5_isPlace σ x1 x2 (fun σ1 r2 => ((r2 = 0 → Q σ1 (-1)) ∧ (¬ (r2 = 0) → (wp_X5_place σ1 x1 x2 (fun σ5 r6 => (vp_in r6 48 ∧ Q σ5 (σ5.1 21 0 (ix r6)))))))))
abbrev rm_X5_access : Room := { frames := 2, cells := 0, slots := 0, locals := 43 }
set_option maxHeartbeats 4000000 in
set_option maxRecDepth 100000 in
theorem c_X5_access (l : Launch) {D : va_G} {P : List (Nat × Nat)} {ad : Nat × Nat → Nat} {cy : Nat → ClassId} (hAd : AdOk P ad) (hC : InM P) (σ : Sg) (x1 : Int32) (x2 : Int32) (Q : Sg → Int32 → Prop) (h : wp_X5_access σ x1 x2 Q) : Met l yX5_access wsX5_access rm_X5_access (xPc D P ad cy σ [.ref (ad (20, 0)), .int x1, .int x2]) (va_Qi (fun r σ' => Q σ' r) (xB D P ad cy) (Aof P ad)) 0 0 (Aof P ad) := by
  refine Met.ofW (cc := cX5_access) (maxL := 3) (ret := (some .int)) (by decide +kernel) rfl ?_
  intro p e s m args below meth c s₁ B hml hv
  obtain ⟨rfl, hP, hK⟩ := hv
  have hx := B.exec
  have hb := B.bytes
  have hr := B.returns
  have hts := atoms_spec (ws := wsX5_access) B.pre
  have hown : s.vm.findClass RX5 = some m.cls := findClass_of_methodNamed B.named
  have hlocks := B.notSynchronized
  have hS : va_S (Aof P ad) s.heap s.heap [] := va_S.rf
  have hl := lv_entry ([.ref (ad (20, 0)), .int x1, .int x2] : List Value) (n := 3) (Nat.le_of_ble_eq_true rfl)
  rw [lg_entry_eq]
  generalize (lg_sl ([.ref (ad (20, 0)), .int x1, .int x2] : List Value) ++ List.replicate (3 - (lg_sl ([.ref (ad (20, 0)), .int x1, .int x2] : List Value)).length) Slot.unset).toArray = ls at hl ⊢
  have hl : lv_has ls 3 [(0, .ref (ad (20, 0))), (1, .int x1), (2, .int x2)] := hl
  unfold wp_X5_access at h
  refine lv_aload_n hx hb dX5_access_0 rfl (lv_at hl 0 rfl) ?_
  refine lv_iload_n hx hb dX5_access_1 rfl (lv_at hl 1 rfl) ?_
  refine lv_iload_n hx hb dX5_access_2 rfl (lv_at hl 2 rfl) ?_
  refine x_cVi (C := RX5) (As := [.int x1, .int x2]) (rest := []) ⟨hx, hb, hml, hown, hts⟩ hK hP hS (c_X5_isPlace l hAd hC σ x1 x2 _ h) (cwV 2 hts gX5_access_X5_isPlace rfl rfl rfl (by decide +kernel) ⟨Nat.le_of_ble_eq_true rfl, Nat.le_of_ble_eq_true rfl⟩) (x_recv hK hP (in1m hC (a := 20) (by decide) (by decide)) rfl rfl) rfl hl.1 rfl (Nat.le_of_ble_eq_true rfl) dX5_access_3 ⟨Nat.zero_le _, Nat.zero_le _⟩ (fun r2 σ1 H locs h hP hS => ?_)
  refine lv_if_eq (tgt := 22) hx hb dX5_access_6 (by decide) (fun c4 => ?_) (fun c4 => ?_)
  · have h := h.1 c4
    refine lv_iconst (v := (-1)) hx hb dX5_access_22 (by decide) ?_
    exact W.iret (v := (-1)) hx hb hr (fun t ht hW => ⟨⟨(-1), σ1, rfl, h, by rw [ht]; exact hP, va_K.moved hW.alike hK⟩, hS.F ht⟩) hS.2.2 dX5_access_23
  · have h := h.2 c4
    refine lv_aload_n hx hb dX5_access_9 rfl (lv_at hl 0 rfl) ?_
    refine x_get (C := RX5) (T := TX5) (N := 25) (ci := 5) (a := 20) (k := 0) (v := .ref (ad (21, 0))) hx hb hts iw_X5_access_X5 hown hK hP (in1m hC (a := 20) (by decide) (by decide)) rfl rfl 1 (by decide) (hts (.fieldLink RX5 7 "PageOwnersModel" "access" "[I") (by decide +kernel)) (fun _ h9 => h9) rfl dX5_access_10 ?_
    refine lv_iload_n hx hb dX5_access_13 rfl (lv_at hl 1 rfl) ?_
    refine lv_iload_n hx hb dX5_access_14 rfl (lv_at hl 2 rfl) ?_
    refine x_cSi (As := [.int x1, .int x2]) (rest := [.ref (ad (21, 0))]) ⟨hx, hb, hml, hown, hts⟩ hK hP hS (c_X5_place l hAd hC σ1 x1 x2 _ h) (va_cwS 2 hts gX5_access_X5_place rfl rfl rfl (by decide +kernel) ⟨Nat.le_of_ble_eq_true rfl, Nat.le_of_ble_eq_true rfl⟩) rfl hl.1 rfl (Nat.le_of_ble_eq_true rfl) dX5_access_15 ⟨Nat.zero_le _, Nat.zero_le _⟩ (fun r6 σ5 H locs h hP hS => ?_)
    have hin8 := h.1
    have h := h.2
    refine x_iald (a := 21) (k := 0) (n := 48) hx hb hK hP (in1m hC (a := 21) (by decide) (by decide)) (fun _ => rfl) hin8 dX5_access_18 ?_
    refine lv_goto (tgt := 23) hx hb dX5_access_19 (by decide) ?_
    exact W.iret (v := (σ5.1 21 0 (ix r6))) hx hb hr (fun t ht hW => ⟨⟨(σ5.1 21 0 (ix r6)), σ5, rfl, h, by rw [ht]; exact hP, va_K.moved hW.alike hK⟩, hS.F ht⟩) hS.2.2 dX5_access_23
theorem iw_X5_owner_X5 : ∀ w ∈ wsX50, w ∈ wsX5_owner := fun _ h => List.mem_cons_of_mem _ (List.mem_append_right _ h)
def lp_X5_owner_2 (x1 : Int32) (Q : Sg → Int32 → Prop) : Nat → Sg → Int32 → Prop
  | 0, _, _ => False
  | n + 1, σ, y2 => (((σ.1 20 0 0) ≤ y2 → Q σ (-1)) ∧ (¬ ((σ.1 20 0 0) ≤ y2) → (wp_X5_isPage σ x1 (fun σ2 r3 => ((r3 = 0 → Q σ2 (-1)) ∧ (¬ (r3 = 0) → (wp_X5_place σ2 y2 x1 (fun σ6 r7 => (vp_in r7 48 ∧ (((σ6.1 22 0 (ix r7)) = 0 → lp_X5_owner_2 x1 Q n σ6 (y2 + 1)) ∧ (¬ ((σ6.1 22 0 (ix r7)) = 0) → Q σ6 y2)))))))))))
def wp_X5_owner (σ : Sg) (x1 : Int32) (Q : Sg → Int32 → Prop) : Prop := (∃ n11, lp_X5_owner_2 x1 Q n11 σ 0)
abbrev rm_X5_owner : Room := { frames := 1, cells := 0, slots := 0, locals := 21 }
set_option maxHeartbeats 4000000 in
set_option maxRecDepth 100000 in
theorem c_X5_owner (l : Launch) {D : va_G} {P : List (Nat × Nat)} {ad : Nat × Nat → Nat} {cy : Nat → ClassId} (hAd : AdOk P ad) (hC : InM P) (σ : Sg) (x1 : Int32) (Q : Sg → Int32 → Prop) (h : wp_X5_owner σ x1 Q) : Met l yX5_owner wsX5_owner rm_X5_owner (xPc D P ad cy σ [.ref (ad (20, 0)), .int x1]) (va_Qi (fun r σ' => Q σ' r) (xB D P ad cy) (Aof P ad)) 0 0 (Aof P ad) := by
  refine Met.ofW (cc := cX5_owner) (maxL := 3) (ret := (some .int)) (by decide +kernel) rfl ?_
  intro p e s m args below meth c s₁ B hml hv
  obtain ⟨rfl, hP, hK⟩ := hv
  have hx := B.exec
  have hb := B.bytes
  have hr := B.returns
  have hts := atoms_spec (ws := wsX5_owner) B.pre
  have hown : s.vm.findClass RX5 = some m.cls := findClass_of_methodNamed B.named
  have hlocks := B.notSynchronized
  have hS : va_S (Aof P ad) s.heap s.heap [] := va_S.rf
  have hl := lv_entry ([.ref (ad (20, 0)), .int x1] : List Value) (n := 3) (Nat.le_of_ble_eq_true rfl)
  rw [lg_entry_eq]
  generalize (lg_sl ([.ref (ad (20, 0)), .int x1] : List Value) ++ List.replicate (3 - (lg_sl ([.ref (ad (20, 0)), .int x1] : List Value)).length) Slot.unset).toArray = ls at hl ⊢
  have hl : lv_has ls 3 [(0, .ref (ad (20, 0))), (1, .int x1)] := hl
  have L2 : ∀ (n : Nat) (σ : Sg) (y2 : Int32) (H : Heap) (locs : List Loc) (ls : Array Slot), lp_X5_owner_2 x1 Q n σ y2 → Wo D P ad cy σ H → va_S (Aof P ad) s.heap H locs → lv_has ls 3 [(0, .ref (ad (20, 0))), (1, .int x1), (2, .int y2)] → W p l e (headSpec wsX5_owner rm_X5_owner).room s m ([.ref (ad (20, 0)), .int x1] : List Value).toArray below meth c H locs 0 0 (MQ below (va_Qi (fun r σ' => Q σ' r) (xB D P ad cy) (Aof P ad)) ([.ref (ad (20, 0)), .int x1] : List Value).toArray s 0 0 (Aof P ad)) (F0 m 2 ls []) := by
    intro n
    induction n with
    | zero =>
      intro σ y2 H locs ls h
      exact h.elim
    | succ n ih =>
      intro σ y2 H locs ls h hP hS hl
      rw [lp_X5_owner_2] at h
      refine lv_iload_n hx hb dX5_owner_2 rfl (lv_at hl 2 rfl) ?_
      refine lv_aload_n hx hb dX5_owner_3 rfl (lv_at hl 0 rfl) ?_
      refine x_get (C := RX5) (T := TX5) (N := 25) (ci := 5) (a := 20) (k := 0) (v := .int (σ.1 20 0 0)) hx hb hts iw_X5_owner_X5 hown hK hP (in1m hC (a := 20) (by decide) (by decide)) rfl rfl 0 (by decide) (hts (.fieldLink RX5 85 "PageOwnersModel" "nodes" "I") (by decide +kernel)) (fun _ h9 => h9) rfl dX5_owner_4 ?_
      refine lv_icmp_ge (tgt := 38) hx hb dX5_owner_7 (by decide) (fun c1 => ?_) (fun c1 => ?_)
      · have h := h.1 c1
        refine lv_iconst (v := (-1)) hx hb dX5_owner_38 (by decide) ?_
        exact W.iret (v := (-1)) hx hb hr (fun t ht hW => ⟨⟨(-1), σ, rfl, h, by rw [ht]; exact hP, va_K.moved hW.alike hK⟩, hS.F ht⟩) hS.2.2 dX5_owner_39
      · have h := h.2 c1
        refine lv_iload_n hx hb dX5_owner_10 rfl (lv_at hl 1 rfl) ?_
        refine x_cSi (As := [.int x1]) (rest := []) ⟨hx, hb, hml, hown, hts⟩ hK hP hS (c_X5_isPage l hAd hC σ x1 _ h) (va_cwS 1 hts gX5_owner_X5_isPage rfl rfl rfl (by decide +kernel) ⟨Nat.le_of_ble_eq_true rfl, Nat.le_of_ble_eq_true rfl⟩) rfl hl.1 rfl (Nat.le_of_ble_eq_true rfl) dX5_owner_11 ⟨Nat.zero_le _, Nat.zero_le _⟩ (fun r3 σ2 H locs h hP hS => ?_)
        refine lv_if_eq (tgt := 38) hx hb dX5_owner_14 (by decide) (fun c5 => ?_) (fun c5 => ?_)
        · have h := h.1 c5
          refine lv_iconst (v := (-1)) hx hb dX5_owner_38 (by decide) ?_
          exact W.iret (v := (-1)) hx hb hr (fun t ht hW => ⟨⟨(-1), σ2, rfl, h, by rw [ht]; exact hP, va_K.moved hW.alike hK⟩, hS.F ht⟩) hS.2.2 dX5_owner_39
        · have h := h.2 c5
          refine lv_aload_n hx hb dX5_owner_17 rfl (lv_at hl 0 rfl) ?_
          refine x_get (C := RX5) (T := TX5) (N := 25) (ci := 5) (a := 20) (k := 0) (v := .ref (ad (22, 0))) hx hb hts iw_X5_owner_X5 hown hK hP (in1m hC (a := 20) (by decide) (by decide)) rfl rfl 2 (by decide) (hts (.fieldLink RX5 13 "PageOwnersModel" "isOwner" "[Z") (by decide +kernel)) (fun _ h9 => h9) rfl dX5_owner_18 ?_
          refine lv_iload_n hx hb dX5_owner_21 rfl (lv_at hl 2 rfl) ?_
          refine lv_iload_n hx hb dX5_owner_22 rfl (lv_at hl 1 rfl) ?_
          refine x_cSi (As := [.int y2, .int x1]) (rest := [.ref (ad (22, 0))]) ⟨hx, hb, hml, hown, hts⟩ hK hP hS (c_X5_place l hAd hC σ2 y2 x1 _ h) (va_cwS 2 hts gX5_owner_X5_place rfl rfl rfl (by decide +kernel) ⟨Nat.le_of_ble_eq_true rfl, Nat.le_of_ble_eq_true rfl⟩) rfl hl.1 rfl (Nat.le_of_ble_eq_true rfl) dX5_owner_23 ⟨Nat.zero_le _, Nat.zero_le _⟩ (fun r7 σ6 H locs h hP hS => ?_)
          have hin9 := h.1
          have h := h.2
          refine x_zald (a := 22) (k := 0) (n := 48) hx hb hK hP (in1m hC (a := 22) (by decide) (by decide)) (fun _ => rfl) hin9 dX5_owner_26 ?_
          refine lv_if_eq (tgt := 32) hx hb dX5_owner_27 (by decide) (fun c10 => ?_) (fun c10 => ?_)
          · have h := h.1 c10
            refine lv_iinc (v := (y2 + 1)) (lv' := [(2, .int (y2 + 1)), (0, .ref (ad (20, 0))), (1, .int x1)]) hx hb dX5_owner_32 hl (k := 2) rfl rfl (by decide) rfl (fun ls hl => ?_)
            refine lv_goto (tgt := 2) hx hb dX5_owner_35 (by decide) ?_
            exact ih σ6 (y2 + 1) _ _ _ h hP hS (lv_sub hl [1, 2, 0] rfl)
          · have h := h.2 c10
            refine lv_iload_n hx hb dX5_owner_30 rfl (lv_at hl 2 rfl) ?_
            exact W.iret (v := y2) hx hb hr (fun t ht hW => ⟨⟨y2, σ6, rfl, h, by rw [ht]; exact hP, va_K.moved hW.alike hK⟩, hS.F ht⟩) hS.2.2 dX5_owner_31
  unfold wp_X5_owner at h
  refine lv_iconst (v := 0) hx hb dX5_owner_0 (by decide) ?_
  refine lv_istore_n (lv' := [(2, .int 0), (0, .ref (ad (20, 0))), (1, .int x1)]) hx hb dX5_owner_1 rfl hl (by decide) rfl (fun ls hl => ?_)
  obtain ⟨n11, h⟩ := h
  exact L2 n11 σ 0 _ _ _ h hP hS (lv_sub hl [1, 2, 0] rfl)
theorem iw_X5_guess_X5 : ∀ w ∈ wsX50, w ∈ wsX5_guess := fun _ h => List.mem_cons_of_mem _ (List.mem_append_right _ h)
def wp_X5_guess (σ : Sg) (x1 : Int32) (x2 : Int32) (Q : Sg → Int32 → Prop) : Prop := (wp_X5_isPlace σ x1 x2 (fun σ1 r2 => ((r2 = 0 → Q σ1 (-1)) ∧ (¬ (r2 = 0) → (wp_X5_place σ1 x1 x2 (fun σ5 r6 => (vp_in r6 48 ∧ Q σ5 (σ5.1 23 0 (ix r6)))))))))
abbrev rm_X5_guess : Room := { frames := 2, cells := 0, slots := 0, locals := 43 }
set_option maxHeartbeats 4000000 in
set_option maxRecDepth 100000 in
theorem c_X5_guess (l : Launch) {D : va_G} {P : List (Nat × Nat)} {ad : Nat × Nat → Nat} {cy : Nat → ClassId} (hAd : AdOk P ad) (hC : InM P) (σ : Sg) (x1 : Int32) (x2 : Int32) (Q : Sg → Int32 → Prop) (h : wp_X5_guess σ x1 x2 Q) : Met l yX5_guess wsX5_guess rm_X5_guess (xPc D P ad cy σ [.ref (ad (20, 0)), .int x1, .int x2]) (va_Qi (fun r σ' => Q σ' r) (xB D P ad cy) (Aof P ad)) 0 0 (Aof P ad) := by
  refine Met.ofW (cc := cX5_guess) (maxL := 3) (ret := (some .int)) (by decide +kernel) rfl ?_
  intro p e s m args below meth c s₁ B hml hv
  obtain ⟨rfl, hP, hK⟩ := hv
  have hx := B.exec
  have hb := B.bytes
  have hr := B.returns
  have hts := atoms_spec (ws := wsX5_guess) B.pre
  have hown : s.vm.findClass RX5 = some m.cls := findClass_of_methodNamed B.named
  have hlocks := B.notSynchronized
  have hS : va_S (Aof P ad) s.heap s.heap [] := va_S.rf
  have hl := lv_entry ([.ref (ad (20, 0)), .int x1, .int x2] : List Value) (n := 3) (Nat.le_of_ble_eq_true rfl)
  rw [lg_entry_eq]
  generalize (lg_sl ([.ref (ad (20, 0)), .int x1, .int x2] : List Value) ++ List.replicate (3 - (lg_sl ([.ref (ad (20, 0)), .int x1, .int x2] : List Value)).length) Slot.unset).toArray = ls at hl ⊢
  have hl : lv_has ls 3 [(0, .ref (ad (20, 0))), (1, .int x1), (2, .int x2)] := hl
  unfold wp_X5_guess at h
  refine lv_aload_n hx hb dX5_guess_0 rfl (lv_at hl 0 rfl) ?_
  refine lv_iload_n hx hb dX5_guess_1 rfl (lv_at hl 1 rfl) ?_
  refine lv_iload_n hx hb dX5_guess_2 rfl (lv_at hl 2 rfl) ?_
  refine x_cVi (C := RX5) (As := [.int x1, .int x2]) (rest := []) ⟨hx, hb, hml, hown, hts⟩ hK hP hS (c_X5_isPlace l hAd hC σ x1 x2 _ h) (cwV 2 hts gX5_guess_X5_isPlace rfl rfl rfl (by decide +kernel) ⟨Nat.le_of_ble_eq_true rfl, Nat.le_of_ble_eq_true rfl⟩) (x_recv hK hP (in1m hC (a := 20) (by decide) (by decide)) rfl rfl) rfl hl.1 rfl (Nat.le_of_ble_eq_true rfl) dX5_guess_3 ⟨Nat.zero_le _, Nat.zero_le _⟩ (fun r2 σ1 H locs h hP hS => ?_)
  refine lv_if_eq (tgt := 22) hx hb dX5_guess_6 (by decide) (fun c4 => ?_) (fun c4 => ?_)
  · have h := h.1 c4
    refine lv_iconst (v := (-1)) hx hb dX5_guess_22 (by decide) ?_
    exact W.iret (v := (-1)) hx hb hr (fun t ht hW => ⟨⟨(-1), σ1, rfl, h, by rw [ht]; exact hP, va_K.moved hW.alike hK⟩, hS.F ht⟩) hS.2.2 dX5_guess_23
  · have h := h.2 c4
    refine lv_aload_n hx hb dX5_guess_9 rfl (lv_at hl 0 rfl) ?_
    refine x_get (C := RX5) (T := TX5) (N := 25) (ci := 5) (a := 20) (k := 0) (v := .ref (ad (23, 0))) hx hb hts iw_X5_guess_X5 hown hK hP (in1m hC (a := 20) (by decide) (by decide)) rfl rfl 3 (by decide) (hts (.fieldLink RX5 17 "PageOwnersModel" "guess" "[I") (by decide +kernel)) (fun _ h9 => h9) rfl dX5_guess_10 ?_
    refine lv_iload_n hx hb dX5_guess_13 rfl (lv_at hl 1 rfl) ?_
    refine lv_iload_n hx hb dX5_guess_14 rfl (lv_at hl 2 rfl) ?_
    refine x_cSi (As := [.int x1, .int x2]) (rest := [.ref (ad (23, 0))]) ⟨hx, hb, hml, hown, hts⟩ hK hP hS (c_X5_place l hAd hC σ1 x1 x2 _ h) (va_cwS 2 hts gX5_guess_X5_place rfl rfl rfl (by decide +kernel) ⟨Nat.le_of_ble_eq_true rfl, Nat.le_of_ble_eq_true rfl⟩) rfl hl.1 rfl (Nat.le_of_ble_eq_true rfl) dX5_guess_15 ⟨Nat.zero_le _, Nat.zero_le _⟩ (fun r6 σ5 H locs h hP hS => ?_)
    have hin8 := h.1
    have h := h.2
    refine x_iald (a := 23) (k := 0) (n := 48) hx hb hK hP (in1m hC (a := 23) (by decide) (by decide)) (fun _ => rfl) hin8 dX5_guess_18 ?_
    refine lv_goto (tgt := 23) hx hb dX5_guess_19 (by decide) ?_
    exact W.iret (v := (σ5.1 23 0 (ix r6))) hx hb hr (fun t ht hW => ⟨⟨(σ5.1 23 0 (ix r6)), σ5, rfl, h, by rw [ht]; exact hP, va_K.moved hW.alike hK⟩, hS.F ht⟩) hS.2.2 dX5_guess_23
theorem iw_X5_copies_X5 : ∀ w ∈ wsX50, w ∈ wsX5_copies := fun _ h => List.mem_cons_of_mem _ (List.mem_append_right _ h)
def wp_X5_copies (σ : Sg) (x1 : Int32) (x2 : Int32) (Q : Sg → Int32 → Prop) : Prop := (wp_X5_isPlace σ x1 x2 (fun σ1 r2 => ((r2 = 0 → Q σ1 (-1)) ∧ (¬ (r2 = 0) → (wp_X5_place σ1 x1 x2 (fun σ5 r6 => (vp_in r6 48 ∧ Q σ5 (σ5.1 24 0 (ix r6)))))))))
abbrev rm_X5_copies : Room := { frames := 2, cells := 0, slots := 0, locals := 43 }
set_option maxHeartbeats 4000000 in
set_option maxRecDepth 100000 in
theorem c_X5_copies (l : Launch) {D : va_G} {P : List (Nat × Nat)} {ad : Nat × Nat → Nat} {cy : Nat → ClassId} (hAd : AdOk P ad) (hC : InM P) (σ : Sg) (x1 : Int32) (x2 : Int32) (Q : Sg → Int32 → Prop) (h : wp_X5_copies σ x1 x2 Q) : Met l yX5_copies wsX5_copies rm_X5_copies (xPc D P ad cy σ [.ref (ad (20, 0)), .int x1, .int x2]) (va_Qi (fun r σ' => Q σ' r) (xB D P ad cy) (Aof P ad)) 0 0 (Aof P ad) := by
  refine Met.ofW (cc := cX5_copies) (maxL := 3) (ret := (some .int)) (by decide +kernel) rfl ?_
  intro p e s m args below meth c s₁ B hml hv
  obtain ⟨rfl, hP, hK⟩ := hv
  have hx := B.exec
  have hb := B.bytes
  have hr := B.returns
  have hts := atoms_spec (ws := wsX5_copies) B.pre
  have hown : s.vm.findClass RX5 = some m.cls := findClass_of_methodNamed B.named
  have hlocks := B.notSynchronized
  have hS : va_S (Aof P ad) s.heap s.heap [] := va_S.rf
  have hl := lv_entry ([.ref (ad (20, 0)), .int x1, .int x2] : List Value) (n := 3) (Nat.le_of_ble_eq_true rfl)
  rw [lg_entry_eq]
  generalize (lg_sl ([.ref (ad (20, 0)), .int x1, .int x2] : List Value) ++ List.replicate (3 - (lg_sl ([.ref (ad (20, 0)), .int x1, .int x2] : List Value)).length) Slot.unset).toArray = ls at hl ⊢
  have hl : lv_has ls 3 [(0, .ref (ad (20, 0))), (1, .int x1), (2, .int x2)] := hl
  unfold wp_X5_copies at h
  refine lv_aload_n hx hb dX5_copies_0 rfl (lv_at hl 0 rfl) ?_
  refine lv_iload_n hx hb dX5_copies_1 rfl (lv_at hl 1 rfl) ?_
  refine lv_iload_n hx hb dX5_copies_2 rfl (lv_at hl 2 rfl) ?_
  refine x_cVi (C := RX5) (As := [.int x1, .int x2]) (rest := []) ⟨hx, hb, hml, hown, hts⟩ hK hP hS (c_X5_isPlace l hAd hC σ x1 x2 _ h) (cwV 2 hts gX5_copies_X5_isPlace rfl rfl rfl (by decide +kernel) ⟨Nat.le_of_ble_eq_true rfl, Nat.le_of_ble_eq_true rfl⟩) (x_recv hK hP (in1m hC (a := 20) (by decide) (by decide)) rfl rfl) rfl hl.1 rfl (Nat.le_of_ble_eq_true rfl) dX5_copies_3 ⟨Nat.zero_le _, Nat.zero_le _⟩ (fun r2 σ1 H locs h hP hS => ?_)
  refine lv_if_eq (tgt := 22) hx hb dX5_copies_6 (by decide) (fun c4 => ?_) (fun c4 => ?_)
  · have h := h.1 c4
    refine lv_iconst (v := (-1)) hx hb dX5_copies_22 (by decide) ?_
    exact W.iret (v := (-1)) hx hb hr (fun t ht hW => ⟨⟨(-1), σ1, rfl, h, by rw [ht]; exact hP, va_K.moved hW.alike hK⟩, hS.F ht⟩) hS.2.2 dX5_copies_23
  · have h := h.2 c4
    refine lv_aload_n hx hb dX5_copies_9 rfl (lv_at hl 0 rfl) ?_
    refine x_get (C := RX5) (T := TX5) (N := 25) (ci := 5) (a := 20) (k := 0) (v := .ref (ad (24, 0))) hx hb hts iw_X5_copies_X5 hown hK hP (in1m hC (a := 20) (by decide) (by decide)) rfl rfl 4 (by decide) (hts (.fieldLink RX5 20 "PageOwnersModel" "copies" "[I") (by decide +kernel)) (fun _ h9 => h9) rfl dX5_copies_10 ?_
    refine lv_iload_n hx hb dX5_copies_13 rfl (lv_at hl 1 rfl) ?_
    refine lv_iload_n hx hb dX5_copies_14 rfl (lv_at hl 2 rfl) ?_
    refine x_cSi (As := [.int x1, .int x2]) (rest := [.ref (ad (24, 0))]) ⟨hx, hb, hml, hown, hts⟩ hK hP hS (c_X5_place l hAd hC σ1 x1 x2 _ h) (va_cwS 2 hts gX5_copies_X5_place rfl rfl rfl (by decide +kernel) ⟨Nat.le_of_ble_eq_true rfl, Nat.le_of_ble_eq_true rfl⟩) rfl hl.1 rfl (Nat.le_of_ble_eq_true rfl) dX5_copies_15 ⟨Nat.zero_le _, Nat.zero_le _⟩ (fun r6 σ5 H locs h hP hS => ?_)
    have hin8 := h.1
    have h := h.2
    refine x_iald (a := 24) (k := 0) (n := 48) hx hb hK hP (in1m hC (a := 24) (by decide) (by decide)) (fun _ => rfl) hin8 dX5_copies_18 ?_
    refine lv_goto (tgt := 23) hx hb dX5_copies_19 (by decide) ?_
    exact W.iret (v := (σ5.1 24 0 (ix r6))) hx hb hr (fun t ht hW => ⟨⟨(σ5.1 24 0 (ix r6)), σ5, rfl, h, by rw [ht]; exact hP, va_K.moved hW.alike hK⟩, hS.F ht⟩) hS.2.2 dX5_copies_23
theorem iw_X5_word_X5 : ∀ w ∈ wsX50, w ∈ wsX5_word := fun _ h => List.mem_cons_of_mem _ (List.mem_append_right _ h)
def wp_X5_word (σ : Sg) (x1 : Int32) (x2 : Int32) (x3 : Int32) (Q : Sg → Int64 → Prop) : Prop := (wp_X5_isPlace σ x1 x2 (fun σ1 r2 => ((r2 = 0 → Q σ1 0) ∧ (¬ (r2 = 0) → ((x3 < 0 → Q σ1 0) ∧ (¬ (x3 < 0) → ((4 ≤ x3 → Q σ1 0) ∧ (¬ (4 ≤ x3) → (wp_X5_place σ1 x1 x2 (fun σ7 r8 => (vp_in ((4 * r8) + x3) 192 ∧ Q σ7 (σ7.2.1 25 0 (ix ((4 * r8) + x3))))))))))))))
abbrev rm_X5_word : Room := { frames := 2, cells := 0, slots := 0, locals := 43 }
set_option maxHeartbeats 4000000 in
set_option maxRecDepth 100000 in
theorem c_X5_word (l : Launch) {D : va_G} {P : List (Nat × Nat)} {ad : Nat × Nat → Nat} {cy : Nat → ClassId} (hAd : AdOk P ad) (hC : InM P) (σ : Sg) (x1 : Int32) (x2 : Int32) (x3 : Int32) (Q : Sg → Int64 → Prop) (h : wp_X5_word σ x1 x2 x3 Q) : Met l yX5_word wsX5_word rm_X5_word (xPc D P ad cy σ [.ref (ad (20, 0)), .int x1, .int x2, .int x3]) (va_Ql (fun r σ' => Q σ' r) (xB D P ad cy) (Aof P ad)) 0 0 (Aof P ad) := by
  refine Met.ofW (cc := cX5_word) (maxL := 4) (ret := (some .long)) (by decide +kernel) rfl ?_
  intro p e s m args below meth c s₁ B hml hv
  obtain ⟨rfl, hP, hK⟩ := hv
  have hx := B.exec
  have hb := B.bytes
  have hr := B.returns
  have hts := atoms_spec (ws := wsX5_word) B.pre
  have hown : s.vm.findClass RX5 = some m.cls := findClass_of_methodNamed B.named
  have hlocks := B.notSynchronized
  have hS : va_S (Aof P ad) s.heap s.heap [] := va_S.rf
  have hl := lv_entry ([.ref (ad (20, 0)), .int x1, .int x2, .int x3] : List Value) (n := 4) (Nat.le_of_ble_eq_true rfl)
  rw [lg_entry_eq]
  generalize (lg_sl ([.ref (ad (20, 0)), .int x1, .int x2, .int x3] : List Value) ++ List.replicate (4 - (lg_sl ([.ref (ad (20, 0)), .int x1, .int x2, .int x3] : List Value)).length) Slot.unset).toArray = ls at hl ⊢
  have hl : lv_has ls 4 [(0, .ref (ad (20, 0))), (1, .int x1), (2, .int x2), (3, .int x3)] := hl
  unfold wp_X5_word at h
  refine lv_aload_n hx hb dX5_word_0 rfl (lv_at hl 0 rfl) ?_
  refine lv_iload_n hx hb dX5_word_1 rfl (lv_at hl 1 rfl) ?_
  refine lv_iload_n hx hb dX5_word_2 rfl (lv_at hl 2 rfl) ?_
  refine x_cVi (C := RX5) (As := [.int x1, .int x2]) (rest := []) ⟨hx, hb, hml, hown, hts⟩ hK hP hS (c_X5_isPlace l hAd hC σ x1 x2 _ h) (cwV 2 hts gX5_word_X5_isPlace rfl rfl rfl (by decide +kernel) ⟨Nat.le_of_ble_eq_true rfl, Nat.le_of_ble_eq_true rfl⟩) (x_recv hK hP (in1m hC (a := 20) (by decide) (by decide)) rfl rfl) rfl hl.1 rfl (Nat.le_of_ble_eq_true rfl) dX5_word_3 ⟨Nat.zero_le _, Nat.zero_le _⟩ (fun r2 σ1 H locs h hP hS => ?_)
  refine lv_if_eq (tgt := 35) hx hb dX5_word_6 (by decide) (fun c4 => ?_) (fun c4 => ?_)
  · have h := h.1 c4
    refine lv_lconst (v := 0) hx hb dX5_word_35 (by decide) ?_
    exact W.lret (v := 0) hx hb hr (fun t ht hW => ⟨⟨0, σ1, rfl, h, by rw [ht]; exact hP, va_K.moved hW.alike hK⟩, hS.F ht⟩) hS.2.2 dX5_word_36
  · have h := h.2 c4
    refine lv_iload_n hx hb dX5_word_9 rfl (lv_at hl 3 rfl) ?_
    refine lv_if_lt (tgt := 35) hx hb dX5_word_10 (by decide) (fun c5 => ?_) (fun c5 => ?_)
    · have h := h.1 c5
      refine lv_lconst (v := 0) hx hb dX5_word_35 (by decide) ?_
      exact W.lret (v := 0) hx hb hr (fun t ht hW => ⟨⟨0, σ1, rfl, h, by rw [ht]; exact hP, va_K.moved hW.alike hK⟩, hS.F ht⟩) hS.2.2 dX5_word_36
    · have h := h.2 c5
      refine lv_iload_n hx hb dX5_word_13 rfl (lv_at hl 3 rfl) ?_
      refine lv_iconst (v := 4) hx hb dX5_word_14 (by decide) ?_
      refine lv_icmp_ge (tgt := 35) hx hb dX5_word_15 (by decide) (fun c6 => ?_) (fun c6 => ?_)
      · have h := h.1 c6
        refine lv_lconst (v := 0) hx hb dX5_word_35 (by decide) ?_
        exact W.lret (v := 0) hx hb hr (fun t ht hW => ⟨⟨0, σ1, rfl, h, by rw [ht]; exact hP, va_K.moved hW.alike hK⟩, hS.F ht⟩) hS.2.2 dX5_word_36
      · have h := h.2 c6
        refine lv_aload_n hx hb dX5_word_18 rfl (lv_at hl 0 rfl) ?_
        refine x_get (C := RX5) (T := TX5) (N := 25) (ci := 5) (a := 20) (k := 0) (v := .ref (ad (25, 0))) hx hb hts iw_X5_word_X5 hown hK hP (in1m hC (a := 20) (by decide) (by decide)) rfl rfl 5 (by decide) (hts (.fieldLink RX5 23 "PageOwnersModel" "words" "[J") (by decide +kernel)) (fun _ h9 => h9) rfl dX5_word_19 ?_
        refine lv_iconst (v := 4) hx hb dX5_word_22 (by decide) ?_
        refine lv_iload_n hx hb dX5_word_23 rfl (lv_at hl 1 rfl) ?_
        refine lv_iload_n hx hb dX5_word_24 rfl (lv_at hl 2 rfl) ?_
        refine x_cSi (As := [.int x1, .int x2]) (rest := [.int 4, .ref (ad (25, 0))]) ⟨hx, hb, hml, hown, hts⟩ hK hP hS (c_X5_place l hAd hC σ1 x1 x2 _ h) (va_cwS 2 hts gX5_word_X5_place rfl rfl rfl (by decide +kernel) ⟨Nat.le_of_ble_eq_true rfl, Nat.le_of_ble_eq_true rfl⟩) rfl hl.1 rfl (Nat.le_of_ble_eq_true rfl) dX5_word_25 ⟨Nat.zero_le _, Nat.zero_le _⟩ (fun r8 σ7 H locs h hP hS => ?_)
        refine lv_imul hx hb dX5_word_28 ?_
        refine lv_iload_n hx hb dX5_word_29 rfl (lv_at hl 3 rfl) ?_
        refine lv_iadd hx hb dX5_word_30 ?_
        have hin10 := h.1
        have h := h.2
        refine x_lald (a := 25) (k := 0) (n := 192) hx hb hK hP (in1m hC (a := 25) (by decide) (by decide)) (fun _ => rfl) hin10 dX5_word_31 ?_
        refine lv_goto (tgt := 36) hx hb dX5_word_32 (by decide) ?_
        exact W.lret (v := (σ7.2.1 25 0 (ix ((4 * r8) + x3)))) hx hb hr (fun t ht hW => ⟨⟨(σ7.2.1 25 0 (ix ((4 * r8) + x3))), σ7, rfl, h, by rw [ht]; exact hP, va_K.moved hW.alike hK⟩, hS.F ht⟩) hS.2.2 dX5_word_36
theorem iw_X5_queue_X5 : ∀ w ∈ wsX50, w ∈ wsX5_queue := fun _ h => List.mem_cons_of_mem _ (List.mem_append_right _ h)
def wp_X5_queue (σ : Sg) (x1 : Int32) (x2 : Int32) (Q : Sg → Int32 → Prop) : Prop := (wp_X5_isPlace σ x1 x2 (fun σ1 r2 => ((r2 = 0 → Q σ1 (-1)) ∧ (¬ (r2 = 0) → (wp_X5_place σ1 x1 x2 (fun σ5 r6 => (vp_in r6 48 ∧ Q σ5 (σ5.1 27 0 (ix r6)))))))))
abbrev rm_X5_queue : Room := { frames := 2, cells := 0, slots := 0, locals := 43 }
set_option maxHeartbeats 4000000 in
set_option maxRecDepth 100000 in
theorem c_X5_queue (l : Launch) {D : va_G} {P : List (Nat × Nat)} {ad : Nat × Nat → Nat} {cy : Nat → ClassId} (hAd : AdOk P ad) (hC : InM P) (σ : Sg) (x1 : Int32) (x2 : Int32) (Q : Sg → Int32 → Prop) (h : wp_X5_queue σ x1 x2 Q) : Met l yX5_queue wsX5_queue rm_X5_queue (xPc D P ad cy σ [.ref (ad (20, 0)), .int x1, .int x2]) (va_Qi (fun r σ' => Q σ' r) (xB D P ad cy) (Aof P ad)) 0 0 (Aof P ad) := by
  refine Met.ofW (cc := cX5_queue) (maxL := 3) (ret := (some .int)) (by decide +kernel) rfl ?_
  intro p e s m args below meth c s₁ B hml hv
  obtain ⟨rfl, hP, hK⟩ := hv
  have hx := B.exec
  have hb := B.bytes
  have hr := B.returns
  have hts := atoms_spec (ws := wsX5_queue) B.pre
  have hown : s.vm.findClass RX5 = some m.cls := findClass_of_methodNamed B.named
  have hlocks := B.notSynchronized
  have hS : va_S (Aof P ad) s.heap s.heap [] := va_S.rf
  have hl := lv_entry ([.ref (ad (20, 0)), .int x1, .int x2] : List Value) (n := 3) (Nat.le_of_ble_eq_true rfl)
  rw [lg_entry_eq]
  generalize (lg_sl ([.ref (ad (20, 0)), .int x1, .int x2] : List Value) ++ List.replicate (3 - (lg_sl ([.ref (ad (20, 0)), .int x1, .int x2] : List Value)).length) Slot.unset).toArray = ls at hl ⊢
  have hl : lv_has ls 3 [(0, .ref (ad (20, 0))), (1, .int x1), (2, .int x2)] := hl
  unfold wp_X5_queue at h
  refine lv_aload_n hx hb dX5_queue_0 rfl (lv_at hl 0 rfl) ?_
  refine lv_iload_n hx hb dX5_queue_1 rfl (lv_at hl 1 rfl) ?_
  refine lv_iload_n hx hb dX5_queue_2 rfl (lv_at hl 2 rfl) ?_
  refine x_cVi (C := RX5) (As := [.int x1, .int x2]) (rest := []) ⟨hx, hb, hml, hown, hts⟩ hK hP hS (c_X5_isPlace l hAd hC σ x1 x2 _ h) (cwV 2 hts gX5_queue_X5_isPlace rfl rfl rfl (by decide +kernel) ⟨Nat.le_of_ble_eq_true rfl, Nat.le_of_ble_eq_true rfl⟩) (x_recv hK hP (in1m hC (a := 20) (by decide) (by decide)) rfl rfl) rfl hl.1 rfl (Nat.le_of_ble_eq_true rfl) dX5_queue_3 ⟨Nat.zero_le _, Nat.zero_le _⟩ (fun r2 σ1 H locs h hP hS => ?_)
  refine lv_if_eq (tgt := 22) hx hb dX5_queue_6 (by decide) (fun c4 => ?_) (fun c4 => ?_)
  · have h := h.1 c4
    refine lv_iconst (v := (-1)) hx hb dX5_queue_22 (by decide) ?_
    exact W.iret (v := (-1)) hx hb hr (fun t ht hW => ⟨⟨(-1), σ1, rfl, h, by rw [ht]; exact hP, va_K.moved hW.alike hK⟩, hS.F ht⟩) hS.2.2 dX5_queue_23
  · have h := h.2 c4
    refine lv_aload_n hx hb dX5_queue_9 rfl (lv_at hl 0 rfl) ?_
    refine x_get (C := RX5) (T := TX5) (N := 25) (ci := 5) (a := 20) (k := 0) (v := .ref (ad (27, 0))) hx hb hts iw_X5_queue_X5 hown hK hP (in1m hC (a := 20) (by decide) (by decide)) rfl rfl 7 (by decide) (hts (.fieldLink RX5 30 "PageOwnersModel" "queued" "[I") (by decide +kernel)) (fun _ h9 => h9) rfl dX5_queue_10 ?_
    refine lv_iload_n hx hb dX5_queue_13 rfl (lv_at hl 1 rfl) ?_
    refine lv_iload_n hx hb dX5_queue_14 rfl (lv_at hl 2 rfl) ?_
    refine x_cSi (As := [.int x1, .int x2]) (rest := [.ref (ad (27, 0))]) ⟨hx, hb, hml, hown, hts⟩ hK hP hS (c_X5_place l hAd hC σ1 x1 x2 _ h) (va_cwS 2 hts gX5_queue_X5_place rfl rfl rfl (by decide +kernel) ⟨Nat.le_of_ble_eq_true rfl, Nat.le_of_ble_eq_true rfl⟩) rfl hl.1 rfl (Nat.le_of_ble_eq_true rfl) dX5_queue_15 ⟨Nat.zero_le _, Nat.zero_le _⟩ (fun r6 σ5 H locs h hP hS => ?_)
    have hin8 := h.1
    have h := h.2
    refine x_iald (a := 27) (k := 0) (n := 48) hx hb hK hP (in1m hC (a := 27) (by decide) (by decide)) (fun _ => rfl) hin8 dX5_queue_18 ?_
    refine lv_goto (tgt := 23) hx hb dX5_queue_19 (by decide) ?_
    exact W.iret (v := (σ5.1 27 0 (ix r6))) hx hb hr (fun t ht hW => ⟨⟨(σ5.1 27 0 (ix r6)), σ5, rfl, h, by rw [ht]; exact hP, va_K.moved hW.alike hK⟩, hS.F ht⟩) hS.2.2 dX5_queue_23
theorem iw_X5_chain_X5 : ∀ w ∈ wsX50, w ∈ wsX5_chain := fun _ h => List.mem_cons_of_mem _ (List.mem_append_right _ h)
def lp_X5_chain_84 (x1 : Int32) (x2 : Int32) (Q : Sg → Int32 → Prop) : Nat → Sg → Int32 → Int32 → Int32 → Prop
  | 0, _, _, _, _ => False
  | n + 1, σ, y3, y4, y5 => ((y4 = y3 → (((σ.1 20 0 0) < y5 → Q σ (-1)) ∧ (¬ ((σ.1 20 0 0) < y5) → Q σ y5))) ∧ (¬ (y4 = y3) → (vp_in y4 6 ∧ (((σ.1 28 0 (ix y4)) = 2 → (vp_in y4 6 ∧ (((σ.1 29 0 (ix y4)) = x2 → (((σ.1 20 0 0) < y5 → Q σ (-1)) ∧ (¬ ((σ.1 20 0 0) < y5) → Q σ y5))) ∧ (¬ ((σ.1 29 0 (ix y4)) = x2) → (((σ.1 20 0 0) < y5 → Q σ (-1)) ∧ (¬ ((σ.1 20 0 0) < y5) → (wp_X5_place σ y4 x2 (fun σ18 r19 => (vp_in r19 48 ∧ lp_X5_chain_84 x1 x2 Q n σ18 y3 (σ18.1 23 0 (ix r19)) (y5 + 1)))))))))) ∧ (¬ ((σ.1 28 0 (ix y4)) = 2) → (((σ.1 20 0 0) < y5 → Q σ (-1)) ∧ (¬ ((σ.1 20 0 0) < y5) → (wp_X5_place σ y4 x2 (fun σ24 r25 => (vp_in r25 48 ∧ lp_X5_chain_84 x1 x2 Q n σ24 y3 (σ24.1 23 0 (ix r25)) (y5 + 1)))))))))))
def lp_X5_chain_20 (x1 : Int32) (x2 : Int32) (Q : Sg → Int32 → Prop) : Nat → Sg → Int32 → Int32 → Prop
  | 0, _, _, _ => False
  | n + 1, σ, y3, y4 => (((σ.1 20 0 20) ≤ y4 → (∃ n28, lp_X5_chain_84 x1 x2 Q n28 σ y3 x1 0)) ∧ (¬ ((σ.1 20 0 20) ≤ y4) → (vp_in (7 * y4) 1400 ∧ (((σ.1 38 0 (ix (7 * y4))) = 4 → (vp_in ((7 * y4) + 3) 1400 ∧ (((σ.1 38 0 (ix ((7 * y4) + 3))) = x2 → (vp_in ((7 * y4) + 2) 1400 ∧ lp_X5_chain_20 x1 x2 Q n σ (σ.1 38 0 (ix ((7 * y4) + 2))) (y4 + 1))) ∧ (¬ ((σ.1 38 0 (ix ((7 * y4) + 3))) = x2) → lp_X5_chain_20 x1 x2 Q n σ y3 (y4 + 1))))) ∧ (¬ ((σ.1 38 0 (ix (7 * y4))) = 4) → lp_X5_chain_20 x1 x2 Q n σ y3 (y4 + 1))))))
def wp_X5_chain (σ : Sg) (x1 : Int32) (x2 : Int32) (Q : Sg → Int32 → Prop) : Prop := (wp_X5_isPlace σ x1 x2 (fun σ1 r2 => ((r2 = 0 → Q σ1 (-1)) ∧ (¬ (r2 = 0) → (wp_X5_owner σ1 x2 (fun σ5 r6 => (∃ n34, lp_X5_chain_20 x1 x2 Q n34 σ5 r6 0)))))))
abbrev rm_X5_chain : Room := { frames := 2, cells := 0, slots := 0, locals := 43 }
set_option maxHeartbeats 4000000 in
set_option maxRecDepth 100000 in
theorem c_X5_chain (l : Launch) {D : va_G} {P : List (Nat × Nat)} {ad : Nat × Nat → Nat} {cy : Nat → ClassId} (hAd : AdOk P ad) (hC : InM P) (σ : Sg) (x1 : Int32) (x2 : Int32) (Q : Sg → Int32 → Prop) (h : wp_X5_chain σ x1 x2 Q) : Met l yX5_chain wsX5_chain rm_X5_chain (xPc D P ad cy σ [.ref (ad (20, 0)), .int x1, .int x2]) (va_Qi (fun r σ' => Q σ' r) (xB D P ad cy) (Aof P ad)) 0 0 (Aof P ad) := by
  refine Met.ofW (cc := cX5_chain) (maxL := 6) (ret := (some .int)) (by decide +kernel) rfl ?_
  intro p e s m args below meth c s₁ B hml hv
  obtain ⟨rfl, hP, hK⟩ := hv
  have hx := B.exec
  have hb := B.bytes
  have hr := B.returns
  have hts := atoms_spec (ws := wsX5_chain) B.pre
  have hown : s.vm.findClass RX5 = some m.cls := findClass_of_methodNamed B.named
  have hlocks := B.notSynchronized
  have hS : va_S (Aof P ad) s.heap s.heap [] := va_S.rf
  have hl := lv_entry ([.ref (ad (20, 0)), .int x1, .int x2] : List Value) (n := 6) (Nat.le_of_ble_eq_true rfl)
  rw [lg_entry_eq]
  generalize (lg_sl ([.ref (ad (20, 0)), .int x1, .int x2] : List Value) ++ List.replicate (6 - (lg_sl ([.ref (ad (20, 0)), .int x1, .int x2] : List Value)).length) Slot.unset).toArray = ls at hl ⊢
  have hl : lv_has ls 6 [(0, .ref (ad (20, 0))), (1, .int x1), (2, .int x2)] := hl
  have L84 : ∀ (n : Nat) (σ : Sg) (y3 : Int32) (y4 : Int32) (y5 : Int32) (H : Heap) (locs : List Loc) (ls : Array Slot), lp_X5_chain_84 x1 x2 Q n σ y3 y4 y5 → Wo D P ad cy σ H → va_S (Aof P ad) s.heap H locs → lv_has ls 6 [(0, .ref (ad (20, 0))), (1, .int x1), (2, .int x2), (3, .int y3), (4, .int y4), (5, .int y5)] → W p l e (headSpec wsX5_chain rm_X5_chain).room s m ([.ref (ad (20, 0)), .int x1, .int x2] : List Value).toArray below meth c H locs 0 0 (MQ below (va_Qi (fun r σ' => Q σ' r) (xB D P ad cy) (Aof P ad)) ([.ref (ad (20, 0)), .int x1, .int x2] : List Value).toArray s 0 0 (Aof P ad)) (F0 m 84 ls []) := by
    intro n
    induction n with
    | zero =>
      intro σ y3 y4 y5 H locs ls h
      exact h.elim
    | succ n ih =>
      intro σ y3 y4 y5 H locs ls h hP hS hl
      rw [lp_X5_chain_84] at h
      refine lv_iload hx hb dX5_chain_84 (lv_at hl 4 rfl) ?_
      refine lv_iload_n hx hb dX5_chain_86 rfl (lv_at hl 3 rfl) ?_
      refine lv_icmp_eq (tgt := 140) hx hb dX5_chain_87 (by decide) (fun c9 => ?_) (fun c9 => ?_)
      · have h := h.1 c9
        refine lv_iload hx hb dX5_chain_140 (lv_at hl 5 rfl) ?_
        refine lv_aload_n hx hb dX5_chain_142 rfl (lv_at hl 0 rfl) ?_
        refine x_get (C := RX5) (T := TX5) (N := 25) (ci := 5) (a := 20) (k := 0) (v := .int (σ.1 20 0 0)) hx hb hts iw_X5_chain_X5 hown hK hP (in1m hC (a := 20) (by decide) (by decide)) rfl rfl 0 (by decide) (hts (.fieldLink RX5 85 "PageOwnersModel" "nodes" "I") (by decide +kernel)) (fun _ h9 => h9) rfl dX5_chain_143 ?_
        refine lv_icmp_gt (tgt := 154) hx hb dX5_chain_146 (by decide) (fun c10 => ?_) (fun c10 => ?_)
        · have h := h.1 c10
          refine lv_iconst (v := (-1)) hx hb dX5_chain_154 (by decide) ?_
          exact W.iret (v := (-1)) hx hb hr (fun t ht hW => ⟨⟨(-1), σ, rfl, h, by rw [ht]; exact hP, va_K.moved hW.alike hK⟩, hS.F ht⟩) hS.2.2 dX5_chain_155
        · have h := h.2 c10
          refine lv_iload hx hb dX5_chain_149 (lv_at hl 5 rfl) ?_
          refine lv_goto (tgt := 155) hx hb dX5_chain_151 (by decide) ?_
          exact W.iret (v := y5) hx hb hr (fun t ht hW => ⟨⟨y5, σ, rfl, h, by rw [ht]; exact hP, va_K.moved hW.alike hK⟩, hS.F ht⟩) hS.2.2 dX5_chain_155
      · have h := h.2 c9
        refine lv_aload_n hx hb dX5_chain_90 rfl (lv_at hl 0 rfl) ?_
        refine x_get (C := RX5) (T := TX5) (N := 25) (ci := 5) (a := 20) (k := 0) (v := .ref (ad (28, 0))) hx hb hts iw_X5_chain_X5 hown hK hP (in1m hC (a := 20) (by decide) (by decide)) rfl rfl 8 (by decide) (hts (.fieldLink RX5 33 "PageOwnersModel" "waits" "[I") (by decide +kernel)) (fun _ h9 => h9) rfl dX5_chain_91 ?_
        refine lv_iload hx hb dX5_chain_94 (lv_at hl 4 rfl) ?_
        have hin11 := h.1
        have h := h.2
        refine x_iald (a := 28) (k := 0) (n := 6) hx hb hK hP (in1m hC (a := 28) (by decide) (by decide)) (fun _ => rfl) hin11 dX5_chain_96 ?_
        refine lv_iconst (v := 2) hx hb dX5_chain_97 (by decide) ?_
        refine lv_icmp_ne (tgt := 112) hx hb dX5_chain_98 (by decide) (fun c12 => ?_) (fun c12 => ?_)
        · have h := h.2 c12
          refine lv_iload hx hb dX5_chain_112 (lv_at hl 5 rfl) ?_
          refine lv_aload_n hx hb dX5_chain_114 rfl (lv_at hl 0 rfl) ?_
          refine x_get (C := RX5) (T := TX5) (N := 25) (ci := 5) (a := 20) (k := 0) (v := .int (σ.1 20 0 0)) hx hb hts iw_X5_chain_X5 hown hK hP (in1m hC (a := 20) (by decide) (by decide)) rfl rfl 0 (by decide) (hts (.fieldLink RX5 85 "PageOwnersModel" "nodes" "I") (by decide +kernel)) (fun _ h9 => h9) rfl dX5_chain_115 ?_
          refine lv_icmp_gt (tgt := 140) hx hb dX5_chain_118 (by decide) (fun c22 => ?_) (fun c22 => ?_)
          · have h := h.1 c22
            refine lv_iload hx hb dX5_chain_140 (lv_at hl 5 rfl) ?_
            refine lv_aload_n hx hb dX5_chain_142 rfl (lv_at hl 0 rfl) ?_
            refine x_get (C := RX5) (T := TX5) (N := 25) (ci := 5) (a := 20) (k := 0) (v := .int (σ.1 20 0 0)) hx hb hts iw_X5_chain_X5 hown hK hP (in1m hC (a := 20) (by decide) (by decide)) rfl rfl 0 (by decide) (hts (.fieldLink RX5 85 "PageOwnersModel" "nodes" "I") (by decide +kernel)) (fun _ h9 => h9) rfl dX5_chain_143 ?_
            refine lv_icmp_gt (tgt := 154) hx hb dX5_chain_146 (by decide) (fun c23 => ?_) (fun c23 => absurd c22 c23)
            refine lv_iconst (v := (-1)) hx hb dX5_chain_154 (by decide) ?_
            exact W.iret (v := (-1)) hx hb hr (fun t ht hW => ⟨⟨(-1), σ, rfl, h, by rw [ht]; exact hP, va_K.moved hW.alike hK⟩, hS.F ht⟩) hS.2.2 dX5_chain_155
          · have h := h.2 c22
            refine lv_aload_n hx hb dX5_chain_121 rfl (lv_at hl 0 rfl) ?_
            refine x_get (C := RX5) (T := TX5) (N := 25) (ci := 5) (a := 20) (k := 0) (v := .ref (ad (23, 0))) hx hb hts iw_X5_chain_X5 hown hK hP (in1m hC (a := 20) (by decide) (by decide)) rfl rfl 3 (by decide) (hts (.fieldLink RX5 17 "PageOwnersModel" "guess" "[I") (by decide +kernel)) (fun _ h9 => h9) rfl dX5_chain_122 ?_
            refine lv_iload hx hb dX5_chain_125 (lv_at hl 4 rfl) ?_
            refine lv_iload_n hx hb dX5_chain_127 rfl (lv_at hl 2 rfl) ?_
            refine x_cSi (As := [.int y4, .int x2]) (rest := [.ref (ad (23, 0))]) ⟨hx, hb, hml, hown, hts⟩ hK hP hS (c_X5_place l hAd hC σ y4 x2 _ h) (va_cwS 2 hts gX5_chain_X5_place rfl rfl rfl (by decide +kernel) ⟨Nat.le_of_ble_eq_true rfl, Nat.le_of_ble_eq_true rfl⟩) rfl hl.1 rfl (Nat.le_of_ble_eq_true rfl) dX5_chain_128 ⟨Nat.zero_le _, Nat.zero_le _⟩ (fun r25 σ24 H locs h hP hS => ?_)
            have hin27 := h.1
            have h := h.2
            refine x_iald (a := 23) (k := 0) (n := 48) hx hb hK hP (in1m hC (a := 23) (by decide) (by decide)) (fun _ => rfl) hin27 dX5_chain_131 ?_
            refine lv_istore (lv' := [(4, .int (σ24.1 23 0 (ix r25))), (0, .ref (ad (20, 0))), (1, .int x1), (2, .int x2), (3, .int y3), (5, .int y5)]) hx hb dX5_chain_132 hl (by decide) rfl (fun ls hl => ?_)
            refine lv_iinc (v := (y5 + 1)) (lv' := [(5, .int (y5 + 1)), (4, .int (σ24.1 23 0 (ix r25))), (0, .ref (ad (20, 0))), (1, .int x1), (2, .int x2), (3, .int y3)]) hx hb dX5_chain_134 hl (k := 5) rfl rfl (by decide) rfl (fun ls hl => ?_)
            refine lv_goto (tgt := 84) hx hb dX5_chain_137 (by decide) ?_
            exact ih σ24 y3 (σ24.1 23 0 (ix r25)) (y5 + 1) _ _ _ h hP hS (lv_sub hl [2, 3, 4, 5, 1, 0] rfl)
        · have h := h.1 c12
          refine lv_aload_n hx hb dX5_chain_101 rfl (lv_at hl 0 rfl) ?_
          refine x_get (C := RX5) (T := TX5) (N := 25) (ci := 5) (a := 20) (k := 0) (v := .ref (ad (29, 0))) hx hb hts iw_X5_chain_X5 hown hK hP (in1m hC (a := 20) (by decide) (by decide)) rfl rfl 9 (by decide) (hts (.fieldLink RX5 36 "PageOwnersModel" "page" "[I") (by decide +kernel)) (fun _ h9 => h9) rfl dX5_chain_102 ?_
          refine lv_iload hx hb dX5_chain_105 (lv_at hl 4 rfl) ?_
          have hin13 := h.1
          have h := h.2
          refine x_iald (a := 29) (k := 0) (n := 6) hx hb hK hP (in1m hC (a := 29) (by decide) (by decide)) (fun _ => rfl) hin13 dX5_chain_107 ?_
          refine lv_iload_n hx hb dX5_chain_108 rfl (lv_at hl 2 rfl) ?_
          refine lv_icmp_eq (tgt := 140) hx hb dX5_chain_109 (by decide) (fun c14 => ?_) (fun c14 => ?_)
          · have h := h.1 c14
            refine lv_iload hx hb dX5_chain_140 (lv_at hl 5 rfl) ?_
            refine lv_aload_n hx hb dX5_chain_142 rfl (lv_at hl 0 rfl) ?_
            refine x_get (C := RX5) (T := TX5) (N := 25) (ci := 5) (a := 20) (k := 0) (v := .int (σ.1 20 0 0)) hx hb hts iw_X5_chain_X5 hown hK hP (in1m hC (a := 20) (by decide) (by decide)) rfl rfl 0 (by decide) (hts (.fieldLink RX5 85 "PageOwnersModel" "nodes" "I") (by decide +kernel)) (fun _ h9 => h9) rfl dX5_chain_143 ?_
            refine lv_icmp_gt (tgt := 154) hx hb dX5_chain_146 (by decide) (fun c15 => ?_) (fun c15 => ?_)
            · have h := h.1 c15
              refine lv_iconst (v := (-1)) hx hb dX5_chain_154 (by decide) ?_
              exact W.iret (v := (-1)) hx hb hr (fun t ht hW => ⟨⟨(-1), σ, rfl, h, by rw [ht]; exact hP, va_K.moved hW.alike hK⟩, hS.F ht⟩) hS.2.2 dX5_chain_155
            · have h := h.2 c15
              refine lv_iload hx hb dX5_chain_149 (lv_at hl 5 rfl) ?_
              refine lv_goto (tgt := 155) hx hb dX5_chain_151 (by decide) ?_
              exact W.iret (v := y5) hx hb hr (fun t ht hW => ⟨⟨y5, σ, rfl, h, by rw [ht]; exact hP, va_K.moved hW.alike hK⟩, hS.F ht⟩) hS.2.2 dX5_chain_155
          · have h := h.2 c14
            refine lv_iload hx hb dX5_chain_112 (lv_at hl 5 rfl) ?_
            refine lv_aload_n hx hb dX5_chain_114 rfl (lv_at hl 0 rfl) ?_
            refine x_get (C := RX5) (T := TX5) (N := 25) (ci := 5) (a := 20) (k := 0) (v := .int (σ.1 20 0 0)) hx hb hts iw_X5_chain_X5 hown hK hP (in1m hC (a := 20) (by decide) (by decide)) rfl rfl 0 (by decide) (hts (.fieldLink RX5 85 "PageOwnersModel" "nodes" "I") (by decide +kernel)) (fun _ h9 => h9) rfl dX5_chain_115 ?_
            refine lv_icmp_gt (tgt := 140) hx hb dX5_chain_118 (by decide) (fun c16 => ?_) (fun c16 => ?_)
            · have h := h.1 c16
              refine lv_iload hx hb dX5_chain_140 (lv_at hl 5 rfl) ?_
              refine lv_aload_n hx hb dX5_chain_142 rfl (lv_at hl 0 rfl) ?_
              refine x_get (C := RX5) (T := TX5) (N := 25) (ci := 5) (a := 20) (k := 0) (v := .int (σ.1 20 0 0)) hx hb hts iw_X5_chain_X5 hown hK hP (in1m hC (a := 20) (by decide) (by decide)) rfl rfl 0 (by decide) (hts (.fieldLink RX5 85 "PageOwnersModel" "nodes" "I") (by decide +kernel)) (fun _ h9 => h9) rfl dX5_chain_143 ?_
              refine lv_icmp_gt (tgt := 154) hx hb dX5_chain_146 (by decide) (fun c17 => ?_) (fun c17 => absurd c16 c17)
              refine lv_iconst (v := (-1)) hx hb dX5_chain_154 (by decide) ?_
              exact W.iret (v := (-1)) hx hb hr (fun t ht hW => ⟨⟨(-1), σ, rfl, h, by rw [ht]; exact hP, va_K.moved hW.alike hK⟩, hS.F ht⟩) hS.2.2 dX5_chain_155
            · have h := h.2 c16
              refine lv_aload_n hx hb dX5_chain_121 rfl (lv_at hl 0 rfl) ?_
              refine x_get (C := RX5) (T := TX5) (N := 25) (ci := 5) (a := 20) (k := 0) (v := .ref (ad (23, 0))) hx hb hts iw_X5_chain_X5 hown hK hP (in1m hC (a := 20) (by decide) (by decide)) rfl rfl 3 (by decide) (hts (.fieldLink RX5 17 "PageOwnersModel" "guess" "[I") (by decide +kernel)) (fun _ h9 => h9) rfl dX5_chain_122 ?_
              refine lv_iload hx hb dX5_chain_125 (lv_at hl 4 rfl) ?_
              refine lv_iload_n hx hb dX5_chain_127 rfl (lv_at hl 2 rfl) ?_
              refine x_cSi (As := [.int y4, .int x2]) (rest := [.ref (ad (23, 0))]) ⟨hx, hb, hml, hown, hts⟩ hK hP hS (c_X5_place l hAd hC σ y4 x2 _ h) (va_cwS 2 hts gX5_chain_X5_place rfl rfl rfl (by decide +kernel) ⟨Nat.le_of_ble_eq_true rfl, Nat.le_of_ble_eq_true rfl⟩) rfl hl.1 rfl (Nat.le_of_ble_eq_true rfl) dX5_chain_128 ⟨Nat.zero_le _, Nat.zero_le _⟩ (fun r19 σ18 H locs h hP hS => ?_)
              have hin21 := h.1
              have h := h.2
              refine x_iald (a := 23) (k := 0) (n := 48) hx hb hK hP (in1m hC (a := 23) (by decide) (by decide)) (fun _ => rfl) hin21 dX5_chain_131 ?_
              refine lv_istore (lv' := [(4, .int (σ18.1 23 0 (ix r19))), (0, .ref (ad (20, 0))), (1, .int x1), (2, .int x2), (3, .int y3), (5, .int y5)]) hx hb dX5_chain_132 hl (by decide) rfl (fun ls hl => ?_)
              refine lv_iinc (v := (y5 + 1)) (lv' := [(5, .int (y5 + 1)), (4, .int (σ18.1 23 0 (ix r19))), (0, .ref (ad (20, 0))), (1, .int x1), (2, .int x2), (3, .int y3)]) hx hb dX5_chain_134 hl (k := 5) rfl rfl (by decide) rfl (fun ls hl => ?_)
              refine lv_goto (tgt := 84) hx hb dX5_chain_137 (by decide) ?_
              exact ih σ18 y3 (σ18.1 23 0 (ix r19)) (y5 + 1) _ _ _ h hP hS (lv_sub hl [2, 3, 4, 5, 1, 0] rfl)
  have L20 : ∀ (n : Nat) (σ : Sg) (y3 : Int32) (y4 : Int32) (H : Heap) (locs : List Loc) (ls : Array Slot), lp_X5_chain_20 x1 x2 Q n σ y3 y4 → Wo D P ad cy σ H → va_S (Aof P ad) s.heap H locs → lv_has ls 6 [(0, .ref (ad (20, 0))), (1, .int x1), (2, .int x2), (3, .int y3), (4, .int y4)] → W p l e (headSpec wsX5_chain rm_X5_chain).room s m ([.ref (ad (20, 0)), .int x1, .int x2] : List Value).toArray below meth c H locs 0 0 (MQ below (va_Qi (fun r σ' => Q σ' r) (xB D P ad cy) (Aof P ad)) ([.ref (ad (20, 0)), .int x1, .int x2] : List Value).toArray s 0 0 (Aof P ad)) (F0 m 20 ls []) := by
    intro n
    induction n with
    | zero =>
      intro σ y3 y4 H locs ls h
      exact h.elim
    | succ n ih =>
      intro σ y3 y4 H locs ls h hP hS hl
      rw [lp_X5_chain_20] at h
      refine lv_iload hx hb dX5_chain_20 (lv_at hl 4 rfl) ?_
      refine lv_aload_n hx hb dX5_chain_22 rfl (lv_at hl 0 rfl) ?_
      refine x_get (C := RX5) (T := TX5) (N := 25) (ci := 5) (a := 20) (k := 0) (v := .int (σ.1 20 0 20)) hx hb hts iw_X5_chain_X5 hown hK hP (in1m hC (a := 20) (by decide) (by decide)) rfl rfl 20 (by decide) (hts (.fieldLink RX5 89 "PageOwnersModel" "flying" "I") (by decide +kernel)) (fun _ h9 => h9) rfl dX5_chain_23 ?_
      refine lv_icmp_ge (tgt := 78) hx hb dX5_chain_26 (by decide) (fun c8 => ?_) (fun c8 => ?_)
      · have h := h.1 c8
        refine lv_iload_n hx hb dX5_chain_78 rfl (lv_at hl 1 rfl) ?_
        refine lv_istore (lv' := [(4, .int x1), (0, .ref (ad (20, 0))), (1, .int x1), (2, .int x2), (3, .int y3)]) hx hb dX5_chain_79 hl (by decide) rfl (fun ls hl => ?_)
        refine lv_iconst (v := 0) hx hb dX5_chain_81 (by decide) ?_
        refine lv_istore (lv' := [(5, .int 0), (4, .int x1), (0, .ref (ad (20, 0))), (1, .int x1), (2, .int x2), (3, .int y3)]) hx hb dX5_chain_82 hl (by decide) rfl (fun ls hl => ?_)
        obtain ⟨n28, h⟩ := h
        exact L84 n28 σ y3 x1 0 _ _ _ h hP hS (lv_sub hl [2, 3, 4, 5, 1, 0] rfl)
      · have h := h.2 c8
        refine lv_aload_n hx hb dX5_chain_29 rfl (lv_at hl 0 rfl) ?_
        refine x_get (C := RX5) (T := TX5) (N := 25) (ci := 5) (a := 20) (k := 0) (v := .ref (ad (38, 0))) hx hb hts iw_X5_chain_X5 hown hK hP (in1m hC (a := 20) (by decide) (by decide)) rfl rfl 18 (by decide) (hts (.fieldLink RX5 63 "PageOwnersModel" "letters" "[I") (by decide +kernel)) (fun _ h9 => h9) rfl dX5_chain_30 ?_
        refine lv_bipush (v := 7) hx hb dX5_chain_33 (by decide) ?_
        refine lv_iload hx hb dX5_chain_35 (lv_at hl 4 rfl) ?_
        refine lv_imul hx hb dX5_chain_37 ?_
        have hin29 := h.1
        have h := h.2
        refine x_iald (a := 38) (k := 0) (n := 1400) hx hb hK hP (in1m hC (a := 38) (by decide) (by decide)) (fun _ => rfl) hin29 dX5_chain_38 ?_
        refine lv_iconst (v := 4) hx hb dX5_chain_39 (by decide) ?_
        refine lv_icmp_ne (tgt := 72) hx hb dX5_chain_40 (by decide) (fun c30 => ?_) (fun c30 => ?_)
        · have h := h.2 c30
          refine lv_iinc (v := (y4 + 1)) (lv' := [(4, .int (y4 + 1)), (0, .ref (ad (20, 0))), (1, .int x1), (2, .int x2), (3, .int y3)]) hx hb dX5_chain_72 hl (k := 4) rfl rfl (by decide) rfl (fun ls hl => ?_)
          refine lv_goto (tgt := 20) hx hb dX5_chain_75 (by decide) ?_
          exact ih σ y3 (y4 + 1) _ _ _ h hP hS (lv_sub hl [1, 2, 3, 4, 0] rfl)
        · have h := h.1 c30
          refine lv_aload_n hx hb dX5_chain_43 rfl (lv_at hl 0 rfl) ?_
          refine x_get (C := RX5) (T := TX5) (N := 25) (ci := 5) (a := 20) (k := 0) (v := .ref (ad (38, 0))) hx hb hts iw_X5_chain_X5 hown hK hP (in1m hC (a := 20) (by decide) (by decide)) rfl rfl 18 (by decide) (hts (.fieldLink RX5 63 "PageOwnersModel" "letters" "[I") (by decide +kernel)) (fun _ h9 => h9) rfl dX5_chain_44 ?_
          refine lv_bipush (v := 7) hx hb dX5_chain_47 (by decide) ?_
          refine lv_iload hx hb dX5_chain_49 (lv_at hl 4 rfl) ?_
          refine lv_imul hx hb dX5_chain_51 ?_
          refine lv_iconst (v := 3) hx hb dX5_chain_52 (by decide) ?_
          refine lv_iadd hx hb dX5_chain_53 ?_
          have hin31 := h.1
          have h := h.2
          refine x_iald (a := 38) (k := 0) (n := 1400) hx hb hK hP (in1m hC (a := 38) (by decide) (by decide)) (fun _ => rfl) hin31 dX5_chain_54 ?_
          refine lv_iload_n hx hb dX5_chain_55 rfl (lv_at hl 2 rfl) ?_
          refine lv_icmp_ne (tgt := 72) hx hb dX5_chain_56 (by decide) (fun c32 => ?_) (fun c32 => ?_)
          · have h := h.2 c32
            refine lv_iinc (v := (y4 + 1)) (lv' := [(4, .int (y4 + 1)), (0, .ref (ad (20, 0))), (1, .int x1), (2, .int x2), (3, .int y3)]) hx hb dX5_chain_72 hl (k := 4) rfl rfl (by decide) rfl (fun ls hl => ?_)
            refine lv_goto (tgt := 20) hx hb dX5_chain_75 (by decide) ?_
            exact ih σ y3 (y4 + 1) _ _ _ h hP hS (lv_sub hl [1, 2, 3, 4, 0] rfl)
          · have h := h.1 c32
            refine lv_aload_n hx hb dX5_chain_59 rfl (lv_at hl 0 rfl) ?_
            refine x_get (C := RX5) (T := TX5) (N := 25) (ci := 5) (a := 20) (k := 0) (v := .ref (ad (38, 0))) hx hb hts iw_X5_chain_X5 hown hK hP (in1m hC (a := 20) (by decide) (by decide)) rfl rfl 18 (by decide) (hts (.fieldLink RX5 63 "PageOwnersModel" "letters" "[I") (by decide +kernel)) (fun _ h9 => h9) rfl dX5_chain_60 ?_
            refine lv_bipush (v := 7) hx hb dX5_chain_63 (by decide) ?_
            refine lv_iload hx hb dX5_chain_65 (lv_at hl 4 rfl) ?_
            refine lv_imul hx hb dX5_chain_67 ?_
            refine lv_iconst (v := 2) hx hb dX5_chain_68 (by decide) ?_
            refine lv_iadd hx hb dX5_chain_69 ?_
            have hin33 := h.1
            have h := h.2
            refine x_iald (a := 38) (k := 0) (n := 1400) hx hb hK hP (in1m hC (a := 38) (by decide) (by decide)) (fun _ => rfl) hin33 dX5_chain_70 ?_
            refine lv_istore_n (lv' := [(3, .int (σ.1 38 0 (ix ((7 * y4) + 2)))), (0, .ref (ad (20, 0))), (1, .int x1), (2, .int x2), (4, .int y4)]) hx hb dX5_chain_71 rfl hl (by decide) rfl (fun ls hl => ?_)
            refine lv_iinc (v := (y4 + 1)) (lv' := [(4, .int (y4 + 1)), (3, .int (σ.1 38 0 (ix ((7 * y4) + 2)))), (0, .ref (ad (20, 0))), (1, .int x1), (2, .int x2)]) hx hb dX5_chain_72 hl (k := 4) rfl rfl (by decide) rfl (fun ls hl => ?_)
            refine lv_goto (tgt := 20) hx hb dX5_chain_75 (by decide) ?_
            exact ih σ (σ.1 38 0 (ix ((7 * y4) + 2))) (y4 + 1) _ _ _ h hP hS (lv_sub hl [2, 3, 4, 1, 0] rfl)
  unfold wp_X5_chain at h
  refine lv_aload_n hx hb dX5_chain_0 rfl (lv_at hl 0 rfl) ?_
  refine lv_iload_n hx hb dX5_chain_1 rfl (lv_at hl 1 rfl) ?_
  refine lv_iload_n hx hb dX5_chain_2 rfl (lv_at hl 2 rfl) ?_
  refine x_cVi (C := RX5) (As := [.int x1, .int x2]) (rest := []) ⟨hx, hb, hml, hown, hts⟩ hK hP hS (c_X5_isPlace l hAd hC σ x1 x2 _ h) (cwV 2 hts gX5_chain_X5_isPlace rfl rfl rfl (by decide +kernel) ⟨Nat.le_of_ble_eq_true rfl, Nat.le_of_ble_eq_true rfl⟩) (x_recv hK hP (in1m hC (a := 20) (by decide) (by decide)) rfl rfl) rfl hl.1 rfl (Nat.le_of_ble_eq_true rfl) dX5_chain_3 ⟨Nat.zero_le _, Nat.zero_le _⟩ (fun r2 σ1 H locs h hP hS => ?_)
  refine lv_if_ne (tgt := 11) hx hb dX5_chain_6 (by decide) (fun c4 => ?_) (fun c4 => ?_)
  · have h := h.2 c4
    refine lv_aload_n hx hb dX5_chain_11 rfl (lv_at hl 0 rfl) ?_
    refine lv_iload_n hx hb dX5_chain_12 rfl (lv_at hl 2 rfl) ?_
    refine x_cVi (C := RX5) (As := [.int x2]) (rest := []) ⟨hx, hb, hml, hown, hts⟩ hK hP hS (c_X5_owner l hAd hC σ1 x2 _ h) (cwV 1 hts gX5_chain_X5_owner rfl rfl rfl (by decide +kernel) ⟨Nat.le_of_ble_eq_true rfl, Nat.le_of_ble_eq_true rfl⟩) (x_recv hK hP (in1m hC (a := 20) (by decide) (by decide)) rfl rfl) rfl hl.1 rfl (Nat.le_of_ble_eq_true rfl) dX5_chain_13 ⟨Nat.zero_le _, Nat.zero_le _⟩ (fun r6 σ5 H locs h hP hS => ?_)
    refine lv_istore_n (lv' := [(3, .int r6), (0, .ref (ad (20, 0))), (1, .int x1), (2, .int x2)]) hx hb dX5_chain_16 rfl hl (by decide) rfl (fun ls hl => ?_)
    refine lv_iconst (v := 0) hx hb dX5_chain_17 (by decide) ?_
    refine lv_istore (lv' := [(4, .int 0), (3, .int r6), (0, .ref (ad (20, 0))), (1, .int x1), (2, .int x2)]) hx hb dX5_chain_18 hl (by decide) rfl (fun ls hl => ?_)
    obtain ⟨n34, h⟩ := h
    exact L20 n34 σ5 r6 0 _ _ _ h hP hS (lv_sub hl [2, 3, 4, 1, 0] rfl)
  · have h := h.1 c4
    refine lv_iconst (v := (-1)) hx hb dX5_chain_9 (by decide) ?_
    exact W.iret (v := (-1)) hx hb hr (fun t ht hW => ⟨⟨(-1), σ1, rfl, h, by rw [ht]; exact hP, va_K.moved hW.alike hK⟩, hS.F ht⟩) hS.2.2 dX5_chain_10
theorem iw_X5_flying_X5 : ∀ w ∈ wsX50, w ∈ wsX5_flying := fun _ h => List.mem_cons_of_mem _ (List.mem_append_right _ h)
def wp_X5_flying (σ : Sg)  (Q : Sg → Int32 → Prop) : Prop := Q σ (σ.1 20 0 20)
abbrev rm_X5_flying : Room := { frames := 0, cells := 0, slots := 0, locals := 0 }
set_option maxHeartbeats 4000000 in
set_option maxRecDepth 100000 in
theorem c_X5_flying (l : Launch) {D : va_G} {P : List (Nat × Nat)} {ad : Nat × Nat → Nat} {cy : Nat → ClassId} (hAd : AdOk P ad) (hC : InM P) (σ : Sg)  (Q : Sg → Int32 → Prop) (h : wp_X5_flying σ  Q) : Met l yX5_flying wsX5_flying rm_X5_flying (xPc D P ad cy σ [.ref (ad (20, 0))]) (va_Qi (fun r σ' => Q σ' r) (xB D P ad cy) (Aof P ad)) 0 0 (Aof P ad) := by
  refine Met.ofW (cc := cX5_flying) (maxL := 1) (ret := (some .int)) (by decide +kernel) rfl ?_
  intro p e s m args below meth c s₁ B hml hv
  obtain ⟨rfl, hP, hK⟩ := hv
  have hx := B.exec
  have hb := B.bytes
  have hr := B.returns
  have hts := atoms_spec (ws := wsX5_flying) B.pre
  have hown : s.vm.findClass RX5 = some m.cls := findClass_of_methodNamed B.named
  have hlocks := B.notSynchronized
  have hS : va_S (Aof P ad) s.heap s.heap [] := va_S.rf
  have hl := lv_entry ([.ref (ad (20, 0))] : List Value) (n := 1) (Nat.le_of_ble_eq_true rfl)
  rw [lg_entry_eq]
  generalize (lg_sl ([.ref (ad (20, 0))] : List Value) ++ List.replicate (1 - (lg_sl ([.ref (ad (20, 0))] : List Value)).length) Slot.unset).toArray = ls at hl ⊢
  have hl : lv_has ls 1 [(0, .ref (ad (20, 0)))] := hl
  unfold wp_X5_flying at h
  refine lv_aload_n hx hb dX5_flying_0 rfl (lv_at hl 0 rfl) ?_
  refine x_get (C := RX5) (T := TX5) (N := 25) (ci := 5) (a := 20) (k := 0) (v := .int (σ.1 20 0 20)) hx hb hts iw_X5_flying_X5 hown hK hP (in1m hC (a := 20) (by decide) (by decide)) rfl rfl 20 (by decide) (hts (.fieldLink RX5 89 "PageOwnersModel" "flying" "I") (by decide +kernel)) (fun _ h9 => h9) rfl dX5_flying_1 ?_
  exact W.iret (v := (σ.1 20 0 20)) hx hb hr (fun t ht hW => ⟨⟨(σ.1 20 0 20), σ, rfl, h, by rw [ht]; exact hP, va_K.moved hW.alike hK⟩, hS.F ht⟩) hS.2.2 dX5_flying_4
theorem iw_X5_letter_X5 : ∀ w ∈ wsX50, w ∈ wsX5_letter := fun _ h => List.mem_cons_of_mem _ (List.mem_append_right _ h)
def wp_X5_letter (σ : Sg) (x1 : Int32) (x2 : Int32) (Q : Sg → Int32 → Prop) : Prop := ((x1 < 0 → Q σ (-2)) ∧ (¬ (x1 < 0) → (((σ.1 20 0 20) ≤ x1 → Q σ (-2)) ∧ (¬ ((σ.1 20 0 20) ≤ x1) → ((x2 < 0 → Q σ (-2)) ∧ (¬ (x2 < 0) → ((5 < x2 → Q σ (-2)) ∧ (¬ (5 < x2) → (vp_in ((7 * x1) + x2) 1400 ∧ Q σ (σ.1 38 0 (ix ((7 * x1) + x2))))))))))))
abbrev rm_X5_letter : Room := { frames := 0, cells := 0, slots := 0, locals := 0 }
set_option maxHeartbeats 4000000 in
set_option maxRecDepth 100000 in
theorem c_X5_letter (l : Launch) {D : va_G} {P : List (Nat × Nat)} {ad : Nat × Nat → Nat} {cy : Nat → ClassId} (hAd : AdOk P ad) (hC : InM P) (σ : Sg) (x1 : Int32) (x2 : Int32) (Q : Sg → Int32 → Prop) (h : wp_X5_letter σ x1 x2 Q) : Met l yX5_letter wsX5_letter rm_X5_letter (xPc D P ad cy σ [.ref (ad (20, 0)), .int x1, .int x2]) (va_Qi (fun r σ' => Q σ' r) (xB D P ad cy) (Aof P ad)) 0 0 (Aof P ad) := by
  refine Met.ofW (cc := cX5_letter) (maxL := 3) (ret := (some .int)) (by decide +kernel) rfl ?_
  intro p e s m args below meth c s₁ B hml hv
  obtain ⟨rfl, hP, hK⟩ := hv
  have hx := B.exec
  have hb := B.bytes
  have hr := B.returns
  have hts := atoms_spec (ws := wsX5_letter) B.pre
  have hown : s.vm.findClass RX5 = some m.cls := findClass_of_methodNamed B.named
  have hlocks := B.notSynchronized
  have hS : va_S (Aof P ad) s.heap s.heap [] := va_S.rf
  have hl := lv_entry ([.ref (ad (20, 0)), .int x1, .int x2] : List Value) (n := 3) (Nat.le_of_ble_eq_true rfl)
  rw [lg_entry_eq]
  generalize (lg_sl ([.ref (ad (20, 0)), .int x1, .int x2] : List Value) ++ List.replicate (3 - (lg_sl ([.ref (ad (20, 0)), .int x1, .int x2] : List Value)).length) Slot.unset).toArray = ls at hl ⊢
  have hl : lv_has ls 3 [(0, .ref (ad (20, 0))), (1, .int x1), (2, .int x2)] := hl
  unfold wp_X5_letter at h
  refine lv_iload_n hx hb dX5_letter_0 rfl (lv_at hl 1 rfl) ?_
  refine lv_if_lt (tgt := 35) hx hb dX5_letter_1 (by decide) (fun c1 => ?_) (fun c1 => ?_)
  · have h := h.1 c1
    refine lv_bipush (v := (-2)) hx hb dX5_letter_35 (by decide) ?_
    exact W.iret (v := (-2)) hx hb hr (fun t ht hW => ⟨⟨(-2), σ, rfl, h, by rw [ht]; exact hP, va_K.moved hW.alike hK⟩, hS.F ht⟩) hS.2.2 dX5_letter_37
  · have h := h.2 c1
    refine lv_iload_n hx hb dX5_letter_4 rfl (lv_at hl 1 rfl) ?_
    refine lv_aload_n hx hb dX5_letter_5 rfl (lv_at hl 0 rfl) ?_
    refine x_get (C := RX5) (T := TX5) (N := 25) (ci := 5) (a := 20) (k := 0) (v := .int (σ.1 20 0 20)) hx hb hts iw_X5_letter_X5 hown hK hP (in1m hC (a := 20) (by decide) (by decide)) rfl rfl 20 (by decide) (hts (.fieldLink RX5 89 "PageOwnersModel" "flying" "I") (by decide +kernel)) (fun _ h9 => h9) rfl dX5_letter_6 ?_
    refine lv_icmp_ge (tgt := 35) hx hb dX5_letter_9 (by decide) (fun c2 => ?_) (fun c2 => ?_)
    · have h := h.1 c2
      refine lv_bipush (v := (-2)) hx hb dX5_letter_35 (by decide) ?_
      exact W.iret (v := (-2)) hx hb hr (fun t ht hW => ⟨⟨(-2), σ, rfl, h, by rw [ht]; exact hP, va_K.moved hW.alike hK⟩, hS.F ht⟩) hS.2.2 dX5_letter_37
    · have h := h.2 c2
      refine lv_iload_n hx hb dX5_letter_12 rfl (lv_at hl 2 rfl) ?_
      refine lv_if_lt (tgt := 35) hx hb dX5_letter_13 (by decide) (fun c3 => ?_) (fun c3 => ?_)
      · have h := h.1 c3
        refine lv_bipush (v := (-2)) hx hb dX5_letter_35 (by decide) ?_
        exact W.iret (v := (-2)) hx hb hr (fun t ht hW => ⟨⟨(-2), σ, rfl, h, by rw [ht]; exact hP, va_K.moved hW.alike hK⟩, hS.F ht⟩) hS.2.2 dX5_letter_37
      · have h := h.2 c3
        refine lv_iload_n hx hb dX5_letter_16 rfl (lv_at hl 2 rfl) ?_
        refine lv_iconst (v := 5) hx hb dX5_letter_17 (by decide) ?_
        refine lv_icmp_gt (tgt := 35) hx hb dX5_letter_18 (by decide) (fun c4 => ?_) (fun c4 => ?_)
        · have h := h.1 c4
          refine lv_bipush (v := (-2)) hx hb dX5_letter_35 (by decide) ?_
          exact W.iret (v := (-2)) hx hb hr (fun t ht hW => ⟨⟨(-2), σ, rfl, h, by rw [ht]; exact hP, va_K.moved hW.alike hK⟩, hS.F ht⟩) hS.2.2 dX5_letter_37
        · have h := h.2 c4
          refine lv_aload_n hx hb dX5_letter_21 rfl (lv_at hl 0 rfl) ?_
          refine x_get (C := RX5) (T := TX5) (N := 25) (ci := 5) (a := 20) (k := 0) (v := .ref (ad (38, 0))) hx hb hts iw_X5_letter_X5 hown hK hP (in1m hC (a := 20) (by decide) (by decide)) rfl rfl 18 (by decide) (hts (.fieldLink RX5 63 "PageOwnersModel" "letters" "[I") (by decide +kernel)) (fun _ h9 => h9) rfl dX5_letter_22 ?_
          refine lv_bipush (v := 7) hx hb dX5_letter_25 (by decide) ?_
          refine lv_iload_n hx hb dX5_letter_27 rfl (lv_at hl 1 rfl) ?_
          refine lv_imul hx hb dX5_letter_28 ?_
          refine lv_iload_n hx hb dX5_letter_29 rfl (lv_at hl 2 rfl) ?_
          refine lv_iadd hx hb dX5_letter_30 ?_
          have hin5 := h.1
          have h := h.2
          refine x_iald (a := 38) (k := 0) (n := 1400) hx hb hK hP (in1m hC (a := 38) (by decide) (by decide)) (fun _ => rfl) hin5 dX5_letter_31 ?_
          refine lv_goto (tgt := 37) hx hb dX5_letter_32 (by decide) ?_
          exact W.iret (v := (σ.1 38 0 (ix ((7 * x1) + x2)))) hx hb hr (fun t ht hW => ⟨⟨(σ.1 38 0 (ix ((7 * x1) + x2))), σ, rfl, h, by rw [ht]; exact hP, va_K.moved hW.alike hK⟩, hS.F ht⟩) hS.2.2 dX5_letter_37
theorem iw_X5_letterWord_X5 : ∀ w ∈ wsX50, w ∈ wsX5_letterWord := fun _ h => List.mem_cons_of_mem _ (List.mem_append_right _ h)
def wp_X5_letterWord (σ : Sg) (x1 : Int32) (x2 : Int32) (Q : Sg → Int64 → Prop) : Prop := ((x1 < 0 → Q σ 0) ∧ (¬ (x1 < 0) → (((σ.1 20 0 20) ≤ x1 → Q σ 0) ∧ (¬ ((σ.1 20 0 20) ≤ x1) → ((x2 < 0 → Q σ 0) ∧ (¬ (x2 < 0) → ((4 ≤ x2 → Q σ 0) ∧ (¬ (4 ≤ x2) → (vp_in ((4 * x1) + x2) 800 ∧ Q σ (σ.2.1 39 0 (ix ((4 * x1) + x2))))))))))))
abbrev rm_X5_letterWord : Room := { frames := 0, cells := 0, slots := 0, locals := 0 }
set_option maxHeartbeats 4000000 in
set_option maxRecDepth 100000 in
theorem c_X5_letterWord (l : Launch) {D : va_G} {P : List (Nat × Nat)} {ad : Nat × Nat → Nat} {cy : Nat → ClassId} (hAd : AdOk P ad) (hC : InM P) (σ : Sg) (x1 : Int32) (x2 : Int32) (Q : Sg → Int64 → Prop) (h : wp_X5_letterWord σ x1 x2 Q) : Met l yX5_letterWord wsX5_letterWord rm_X5_letterWord (xPc D P ad cy σ [.ref (ad (20, 0)), .int x1, .int x2]) (va_Ql (fun r σ' => Q σ' r) (xB D P ad cy) (Aof P ad)) 0 0 (Aof P ad) := by
  refine Met.ofW (cc := cX5_letterWord) (maxL := 3) (ret := (some .long)) (by decide +kernel) rfl ?_
  intro p e s m args below meth c s₁ B hml hv
  obtain ⟨rfl, hP, hK⟩ := hv
  have hx := B.exec
  have hb := B.bytes
  have hr := B.returns
  have hts := atoms_spec (ws := wsX5_letterWord) B.pre
  have hown : s.vm.findClass RX5 = some m.cls := findClass_of_methodNamed B.named
  have hlocks := B.notSynchronized
  have hS : va_S (Aof P ad) s.heap s.heap [] := va_S.rf
  have hl := lv_entry ([.ref (ad (20, 0)), .int x1, .int x2] : List Value) (n := 3) (Nat.le_of_ble_eq_true rfl)
  rw [lg_entry_eq]
  generalize (lg_sl ([.ref (ad (20, 0)), .int x1, .int x2] : List Value) ++ List.replicate (3 - (lg_sl ([.ref (ad (20, 0)), .int x1, .int x2] : List Value)).length) Slot.unset).toArray = ls at hl ⊢
  have hl : lv_has ls 3 [(0, .ref (ad (20, 0))), (1, .int x1), (2, .int x2)] := hl
  unfold wp_X5_letterWord at h
  refine lv_iload_n hx hb dX5_letterWord_0 rfl (lv_at hl 1 rfl) ?_
  refine lv_if_lt (tgt := 34) hx hb dX5_letterWord_1 (by decide) (fun c1 => ?_) (fun c1 => ?_)
  · have h := h.1 c1
    refine lv_lconst (v := 0) hx hb dX5_letterWord_34 (by decide) ?_
    exact W.lret (v := 0) hx hb hr (fun t ht hW => ⟨⟨0, σ, rfl, h, by rw [ht]; exact hP, va_K.moved hW.alike hK⟩, hS.F ht⟩) hS.2.2 dX5_letterWord_35
  · have h := h.2 c1
    refine lv_iload_n hx hb dX5_letterWord_4 rfl (lv_at hl 1 rfl) ?_
    refine lv_aload_n hx hb dX5_letterWord_5 rfl (lv_at hl 0 rfl) ?_
    refine x_get (C := RX5) (T := TX5) (N := 25) (ci := 5) (a := 20) (k := 0) (v := .int (σ.1 20 0 20)) hx hb hts iw_X5_letterWord_X5 hown hK hP (in1m hC (a := 20) (by decide) (by decide)) rfl rfl 20 (by decide) (hts (.fieldLink RX5 89 "PageOwnersModel" "flying" "I") (by decide +kernel)) (fun _ h9 => h9) rfl dX5_letterWord_6 ?_
    refine lv_icmp_ge (tgt := 34) hx hb dX5_letterWord_9 (by decide) (fun c2 => ?_) (fun c2 => ?_)
    · have h := h.1 c2
      refine lv_lconst (v := 0) hx hb dX5_letterWord_34 (by decide) ?_
      exact W.lret (v := 0) hx hb hr (fun t ht hW => ⟨⟨0, σ, rfl, h, by rw [ht]; exact hP, va_K.moved hW.alike hK⟩, hS.F ht⟩) hS.2.2 dX5_letterWord_35
    · have h := h.2 c2
      refine lv_iload_n hx hb dX5_letterWord_12 rfl (lv_at hl 2 rfl) ?_
      refine lv_if_lt (tgt := 34) hx hb dX5_letterWord_13 (by decide) (fun c3 => ?_) (fun c3 => ?_)
      · have h := h.1 c3
        refine lv_lconst (v := 0) hx hb dX5_letterWord_34 (by decide) ?_
        exact W.lret (v := 0) hx hb hr (fun t ht hW => ⟨⟨0, σ, rfl, h, by rw [ht]; exact hP, va_K.moved hW.alike hK⟩, hS.F ht⟩) hS.2.2 dX5_letterWord_35
      · have h := h.2 c3
        refine lv_iload_n hx hb dX5_letterWord_16 rfl (lv_at hl 2 rfl) ?_
        refine lv_iconst (v := 4) hx hb dX5_letterWord_17 (by decide) ?_
        refine lv_icmp_ge (tgt := 34) hx hb dX5_letterWord_18 (by decide) (fun c4 => ?_) (fun c4 => ?_)
        · have h := h.1 c4
          refine lv_lconst (v := 0) hx hb dX5_letterWord_34 (by decide) ?_
          exact W.lret (v := 0) hx hb hr (fun t ht hW => ⟨⟨0, σ, rfl, h, by rw [ht]; exact hP, va_K.moved hW.alike hK⟩, hS.F ht⟩) hS.2.2 dX5_letterWord_35
        · have h := h.2 c4
          refine lv_aload_n hx hb dX5_letterWord_21 rfl (lv_at hl 0 rfl) ?_
          refine x_get (C := RX5) (T := TX5) (N := 25) (ci := 5) (a := 20) (k := 0) (v := .ref (ad (39, 0))) hx hb hts iw_X5_letterWord_X5 hown hK hP (in1m hC (a := 20) (by decide) (by decide)) rfl rfl 19 (by decide) (hts (.fieldLink RX5 66 "PageOwnersModel" "letterWords" "[J") (by decide +kernel)) (fun _ h9 => h9) rfl dX5_letterWord_22 ?_
          refine lv_iconst (v := 4) hx hb dX5_letterWord_25 (by decide) ?_
          refine lv_iload_n hx hb dX5_letterWord_26 rfl (lv_at hl 1 rfl) ?_
          refine lv_imul hx hb dX5_letterWord_27 ?_
          refine lv_iload_n hx hb dX5_letterWord_28 rfl (lv_at hl 2 rfl) ?_
          refine lv_iadd hx hb dX5_letterWord_29 ?_
          have hin5 := h.1
          have h := h.2
          refine x_lald (a := 39) (k := 0) (n := 800) hx hb hK hP (in1m hC (a := 39) (by decide) (by decide)) (fun _ => rfl) hin5 dX5_letterWord_30 ?_
          refine lv_goto (tgt := 35) hx hb dX5_letterWord_31 (by decide) ?_
          exact W.lret (v := (σ.2.1 39 0 (ix ((4 * x1) + x2)))) hx hb hr (fun t ht hW => ⟨⟨(σ.2.1 39 0 (ix ((4 * x1) + x2))), σ, rfl, h, by rw [ht]; exact hP, va_K.moved hW.alike hK⟩, hS.F ht⟩) hS.2.2 dX5_letterWord_35
theorem iw_X5_count_X5 : ∀ w ∈ wsX50, w ∈ wsX5_count := fun _ h => List.mem_cons_of_mem _ (List.mem_append_right _ h)
def wp_X5_count (σ : Sg) (x1 : Int32) (Q : Sg → Int32 → Prop) : Prop := ((x1 = 0 → Q σ (σ.1 20 0 0)) ∧ (¬ (x1 = 0) → ((x1 ≤ 0 → Q σ (-1)) ∧ (¬ (x1 ≤ 0) → ((8 ≤ x1 → Q σ (-1)) ∧ (¬ (8 ≤ x1) → (vp_in x1 8 ∧ Q σ (σ.1 41 0 (ix x1)))))))))
abbrev rm_X5_count : Room := { frames := 0, cells := 0, slots := 0, locals := 0 }
set_option maxHeartbeats 4000000 in
set_option maxRecDepth 100000 in
theorem c_X5_count (l : Launch) {D : va_G} {P : List (Nat × Nat)} {ad : Nat × Nat → Nat} {cy : Nat → ClassId} (hAd : AdOk P ad) (hC : InM P) (σ : Sg) (x1 : Int32) (Q : Sg → Int32 → Prop) (h : wp_X5_count σ x1 Q) : Met l yX5_count wsX5_count rm_X5_count (xPc D P ad cy σ [.ref (ad (20, 0)), .int x1]) (va_Qi (fun r σ' => Q σ' r) (xB D P ad cy) (Aof P ad)) 0 0 (Aof P ad) := by
  refine Met.ofW (cc := cX5_count) (maxL := 2) (ret := (some .int)) (by decide +kernel) rfl ?_
  intro p e s m args below meth c s₁ B hml hv
  obtain ⟨rfl, hP, hK⟩ := hv
  have hx := B.exec
  have hb := B.bytes
  have hr := B.returns
  have hts := atoms_spec (ws := wsX5_count) B.pre
  have hown : s.vm.findClass RX5 = some m.cls := findClass_of_methodNamed B.named
  have hlocks := B.notSynchronized
  have hS : va_S (Aof P ad) s.heap s.heap [] := va_S.rf
  have hl := lv_entry ([.ref (ad (20, 0)), .int x1] : List Value) (n := 2) (Nat.le_of_ble_eq_true rfl)
  rw [lg_entry_eq]
  generalize (lg_sl ([.ref (ad (20, 0)), .int x1] : List Value) ++ List.replicate (2 - (lg_sl ([.ref (ad (20, 0)), .int x1] : List Value)).length) Slot.unset).toArray = ls at hl ⊢
  have hl : lv_has ls 2 [(0, .ref (ad (20, 0))), (1, .int x1)] := hl
  unfold wp_X5_count at h
  refine lv_iload_n hx hb dX5_count_0 rfl (lv_at hl 1 rfl) ?_
  refine lv_if_ne (tgt := 11) hx hb dX5_count_1 (by decide) (fun c1 => ?_) (fun c1 => ?_)
  · have h := h.2 c1
    refine lv_iload_n hx hb dX5_count_11 rfl (lv_at hl 1 rfl) ?_
    refine lv_if_le (tgt := 30) hx hb dX5_count_12 (by decide) (fun c2 => ?_) (fun c2 => ?_)
    · have h := h.1 c2
      refine lv_iconst (v := (-1)) hx hb dX5_count_30 (by decide) ?_
      exact W.iret (v := (-1)) hx hb hr (fun t ht hW => ⟨⟨(-1), σ, rfl, h, by rw [ht]; exact hP, va_K.moved hW.alike hK⟩, hS.F ht⟩) hS.2.2 dX5_count_31
    · have h := h.2 c2
      refine lv_iload_n hx hb dX5_count_15 rfl (lv_at hl 1 rfl) ?_
      refine lv_bipush (v := 8) hx hb dX5_count_16 (by decide) ?_
      refine lv_icmp_ge (tgt := 30) hx hb dX5_count_18 (by decide) (fun c3 => ?_) (fun c3 => ?_)
      · have h := h.1 c3
        refine lv_iconst (v := (-1)) hx hb dX5_count_30 (by decide) ?_
        exact W.iret (v := (-1)) hx hb hr (fun t ht hW => ⟨⟨(-1), σ, rfl, h, by rw [ht]; exact hP, va_K.moved hW.alike hK⟩, hS.F ht⟩) hS.2.2 dX5_count_31
      · have h := h.2 c3
        refine lv_aload_n hx hb dX5_count_21 rfl (lv_at hl 0 rfl) ?_
        refine x_get (C := RX5) (T := TX5) (N := 25) (ci := 5) (a := 20) (k := 0) (v := .ref (ad (41, 0))) hx hb hts iw_X5_count_X5 hown hK hP (in1m hC (a := 20) (by decide) (by decide)) rfl rfl 21 (by decide) (hts (.fieldLink RX5 69 "PageOwnersModel" "counts" "[I") (by decide +kernel)) (fun _ h9 => h9) rfl dX5_count_22 ?_
        refine lv_iload_n hx hb dX5_count_25 rfl (lv_at hl 1 rfl) ?_
        have hin4 := h.1
        have h := h.2
        refine x_iald (a := 41) (k := 0) (n := 8) hx hb hK hP (in1m hC (a := 41) (by decide) (by decide)) (fun _ => rfl) hin4 dX5_count_26 ?_
        refine lv_goto (tgt := 31) hx hb dX5_count_27 (by decide) ?_
        exact W.iret (v := (σ.1 41 0 (ix x1))) hx hb hr (fun t ht hW => ⟨⟨(σ.1 41 0 (ix x1)), σ, rfl, h, by rw [ht]; exact hP, va_K.moved hW.alike hK⟩, hS.F ht⟩) hS.2.2 dX5_count_31
  · have h := h.1 c1
    refine lv_aload_n hx hb dX5_count_4 rfl (lv_at hl 0 rfl) ?_
    refine x_get (C := RX5) (T := TX5) (N := 25) (ci := 5) (a := 20) (k := 0) (v := .int (σ.1 20 0 0)) hx hb hts iw_X5_count_X5 hown hK hP (in1m hC (a := 20) (by decide) (by decide)) rfl rfl 0 (by decide) (hts (.fieldLink RX5 85 "PageOwnersModel" "nodes" "I") (by decide +kernel)) (fun _ h9 => h9) rfl dX5_count_5 ?_
    refine lv_goto (tgt := 31) hx hb dX5_count_8 (by decide) ?_
    exact W.iret (v := (σ.1 20 0 0)) hx hb hr (fun t ht hW => ⟨⟨(σ.1 20 0 0), σ, rfl, h, by rw [ht]; exact hP, va_K.moved hW.alike hK⟩, hS.F ht⟩) hS.2.2 dX5_count_31
