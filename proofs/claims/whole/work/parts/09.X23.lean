theorem iw_X2_has_X2 : ∀ w ∈ wsX20, w ∈ wsX2_has := fun _ h => List.mem_cons_of_mem _ (List.mem_append_right _ h)
def wp_X2_has (σ : Sg) (x1 : Int32) (Q : Sg → Int32 → Prop) : Prop := ((x1 < 0 → (Q σ 0)) ∧ (¬ (x1 < 0) → (((σ.1 3 0 1) ≤ x1 → (Q σ 0)) ∧ (¬ ((σ.1 3 0 1) ≤ x1) → (Q σ 1)))))
abbrev rm_X2_has : Room := { frames := 0, cells := 0, slots := 0, locals := 0 }
set_option maxHeartbeats 4000000 in
set_option maxRecDepth 100000 in
theorem c_X2_has (l : Launch) {D : va_G} {P : List (Nat × Nat)} {ad : Nat × Nat → Nat} {cy : Nat → ClassId} (hAd : AdOk P ad) (hC : InC P) (σ : Sg) (x1 : Int32) (Q : Sg → Int32 → Prop) (h : wp_X2_has σ x1 Q) : Met l yX2_has wsX2_has rm_X2_has (xPc D P ad cy σ [.ref (ad (3, 0)), .int x1]) (va_Qi (fun r σ' => Q σ' r) (xB D P ad cy) (Aof P ad)) 0 0 (Aof P ad) := by
  refine Met.ofW (cc := cX2_has) (maxL := 2) (ret := (some .boolean)) (by decide +kernel) rfl ?_
  intro p e s m args below meth c s₁ B hml hv
  obtain ⟨rfl, hP, hK⟩ := hv
  have hx := B.exec
  have hb := B.bytes
  have hr := B.returns
  have hts := atoms_spec (ws := wsX2_has) B.pre
  have hown : s.vm.findClass RX2 = some m.cls := findClass_of_methodNamed B.named
  have hlocks := B.notSynchronized
  have hS : va_S (Aof P ad) s.heap s.heap [] := va_S.rf
  have hl := lv_entry ([.ref (ad (3, 0)), .int x1] : List Value) (n := 2) (Nat.le_of_ble_eq_true rfl)
  rw [lg_entry_eq]
  generalize (lg_sl ([.ref (ad (3, 0)), .int x1] : List Value) ++ List.replicate (2 - (lg_sl ([.ref (ad (3, 0)), .int x1] : List Value)).length) Slot.unset).toArray = ls at hl ⊢
  have hl : lv_has ls 2 [(0, .ref (ad (3, 0))), (1, .int x1)] := hl
  unfold wp_X2_has at h
  refine lv_iload_n hx hb dX2_has_0 rfl (lv_at hl 1 rfl) ?_
  refine lv_if_lt (tgt := 16) hx hb dX2_has_1 (by decide) (fun c1 => ?_) (fun c1 => ?_)
  · have h := h.1 c1
    refine lv_iconst (v := 0) hx hb dX2_has_16 (by decide) ?_
    exact W.zret (v := 0) hx hb hr rfl (fun t ht hW => ⟨⟨0, σ, rfl, h, by rw [ht]; exact hP, va_K.moved hW.alike hK⟩, hS.F ht⟩) hS.2.2 dX2_has_17
  · have h := h.2 c1
    refine lv_iload_n hx hb dX2_has_4 rfl (lv_at hl 1 rfl) ?_
    refine lv_aload_n hx hb dX2_has_5 rfl (lv_at hl 0 rfl) ?_
    refine x_get (C := RX2) (T := TX2) (N := 2) (ci := 2) (a := 3) (k := 0) (v := .int (σ.1 3 0 1)) hx hb hts iw_X2_has_X2 hown hK hP (in1 hC (a := 3) (by decide) (by decide)) rfl rfl 1 (by decide) (hts (.fieldLink RX2 18 "PageOwners$Mail" "flying" "I") (by decide +kernel)) (fun _ h9 => h9) rfl dX2_has_6 ?_
    refine lv_icmp_ge (tgt := 16) hx hb dX2_has_9 (by decide) (fun c2 => ?_) (fun c2 => ?_)
    · have h := h.1 c2
      refine lv_iconst (v := 0) hx hb dX2_has_16 (by decide) ?_
      exact W.zret (v := 0) hx hb hr rfl (fun t ht hW => ⟨⟨0, σ, rfl, h, by rw [ht]; exact hP, va_K.moved hW.alike hK⟩, hS.F ht⟩) hS.2.2 dX2_has_17
    · have h := h.2 c2
      refine lv_iconst (v := 1) hx hb dX2_has_12 (by decide) ?_
      refine lv_goto (tgt := 17) hx hb dX2_has_13 (by decide) ?_
      exact W.zret (v := 1) hx hb hr rfl (fun t ht hW => ⟨⟨1, σ, rfl, h, by rw [ht]; exact hP, va_K.moved hW.alike hK⟩, hS.F ht⟩) hS.2.2 dX2_has_17
theorem iw_X2_putIn_X1 : ∀ w ∈ wsX10, w ∈ wsX2_putIn := fun _ h => List.mem_cons_of_mem _ (List.mem_append_right _ h)
theorem iw_X2_putIn_X2 : ∀ w ∈ wsX20, w ∈ wsX2_putIn := fun _ h => List.mem_cons_of_mem _ (List.mem_append_left _ (List.mem_append_right _ h))
def wp_X2_putIn (σ : Sg) (x1 : Int32) (x2 : Int32) (x3 : Int32) (x4 : Int32) (Q : Sg → Nat → Prop) : Prop := (∀ σ1, σ1 = sI σ 3 0 1 ((if 31 < (σ.1 3 0 1) then 31 else (σ.1 3 0 1)) + 1) → (vp_in (if 31 < (σ.1 3 0 1) then 31 else (σ.1 3 0 1)) 32 ∧ (σ1.2.2 (ix (if 31 < (σ.1 3 0 1) then 31 else (σ.1 3 0 1))) < 32 ∧ (∀ σ5, σ5 = sI σ1 15 (σ1.2.2 (ix (if 31 < (σ.1 3 0 1) then 31 else (σ.1 3 0 1)))) 0 x1 → (∀ σ7, σ7 = sI σ5 15 (σ1.2.2 (ix (if 31 < (σ.1 3 0 1) then 31 else (σ.1 3 0 1)))) 1 x2 → (∀ σ9, σ9 = sI σ7 15 (σ1.2.2 (ix (if 31 < (σ.1 3 0 1) then 31 else (σ.1 3 0 1)))) 2 x3 → (∀ σ11, σ11 = sI σ9 15 (σ1.2.2 (ix (if 31 < (σ.1 3 0 1) then 31 else (σ.1 3 0 1)))) 3 x4 → (∀ σ13, σ13 = sI σ11 15 (σ1.2.2 (ix (if 31 < (σ.1 3 0 1) then 31 else (σ.1 3 0 1)))) 4 (-1) → (∀ σ15, σ15 = sI σ13 15 (σ1.2.2 (ix (if 31 < (σ.1 3 0 1) then 31 else (σ.1 3 0 1)))) 5 0 → Q σ15 (σ1.2.2 (ix (if 31 < (σ.1 3 0 1) then 31 else (σ.1 3 0 1)))))))))))))
abbrev rm_X2_putIn : Room := { frames := 1, cells := 0, slots := 0, locals := 13 }
set_option maxHeartbeats 4000000 in
set_option maxRecDepth 100000 in
theorem c_X2_putIn (l : Launch) {D : va_G} {P : List (Nat × Nat)} {ad : Nat × Nat → Nat} {cy : Nat → ClassId} (hAd : AdOk P ad) (hC : InC P) (σ : Sg) (x1 : Int32) (x2 : Int32) (x3 : Int32) (x4 : Int32) (Q : Sg → Nat → Prop) (h : wp_X2_putIn σ x1 x2 x3 x4 Q) : Met l yX2_putIn wsX2_putIn rm_X2_putIn (xPc D P ad cy σ [.ref (ad (3, 0)), .int x1, .int x2, .int x3, .int x4]) (va_Qr (fun u => u.2 < 32 ∧ Q u.1 u.2) (xBr D P ad cy) (Aof P ad)) 0 0 (Aof P ad) := by
  refine Met.ofW (cc := cX2_putIn) (maxL := 7) (ret := (some (.object "PageOwners$Letter"))) (by decide +kernel) rfl ?_
  intro p e s m args below meth c s₁ B hml hv
  obtain ⟨rfl, hP, hK⟩ := hv
  have hx := B.exec
  have hb := B.bytes
  have hr := B.returns
  have hts := atoms_spec (ws := wsX2_putIn) B.pre
  have hown : s.vm.findClass RX2 = some m.cls := findClass_of_methodNamed B.named
  have hlocks := B.notSynchronized
  have hS : va_S (Aof P ad) s.heap s.heap [] := va_S.rf
  have hl := lv_entry ([.ref (ad (3, 0)), .int x1, .int x2, .int x3, .int x4] : List Value) (n := 7) (Nat.le_of_ble_eq_true rfl)
  rw [lg_entry_eq]
  generalize (lg_sl ([.ref (ad (3, 0)), .int x1, .int x2, .int x3, .int x4] : List Value) ++ List.replicate (7 - (lg_sl ([.ref (ad (3, 0)), .int x1, .int x2, .int x3, .int x4] : List Value)).length) Slot.unset).toArray = ls at hl ⊢
  have hl : lv_has ls 7 [(0, .ref (ad (3, 0))), (1, .int x1), (2, .int x2), (3, .int x3), (4, .int x4)] := hl
  unfold wp_X2_putIn at h
  refine lv_aload_n hx hb dX2_putIn_0 rfl (lv_at hl 0 rfl) ?_
  refine x_get (C := RX2) (T := TX2) (N := 2) (ci := 2) (a := 3) (k := 0) (v := .int (σ.1 3 0 1)) hx hb hts iw_X2_putIn_X2 hown hK hP (in1 hC (a := 3) (by decide) (by decide)) rfl rfl 1 (by decide) (hts (.fieldLink RX2 18 "PageOwners$Mail" "flying" "I") (by decide +kernel)) (fun _ h9 => h9) rfl dX2_putIn_1 ?_
  refine lv_bipush (v := 31) hx hb dX2_putIn_4 (by decide) ?_
  refine va_mmin hx hb (hml.trans hl.1.symm) hown (hts (.methodLink RX2 22 Lib.Math.min.name) (by decide +kernel)) (hts (.static Lib.Math.min.name) (by decide +kernel)) (hts (.initialized "java/lang/Math") (by decide +kernel)) (hts (.code Lib.Math.min.name Lib.Math.min.code 2 (some .int)) (by decide +kernel)) (Nat.le_of_ble_eq_true rfl) (Nat.le_of_ble_eq_true rfl) (Nat.zero_le _) (Nat.zero_le _) dX2_putIn_6 ?_
  refine lv_istore (lv' := [(5, .int (if 31 < (σ.1 3 0 1) then 31 else (σ.1 3 0 1))), (0, .ref (ad (3, 0))), (1, .int x1), (2, .int x2), (3, .int x3), (4, .int x4)]) hx hb dX2_putIn_9 hl (by decide) rfl (fun ls hl => ?_)
  refine lv_aload_n hx hb dX2_putIn_11 rfl (lv_at hl 1 rfl) ?_
  refine lv_iload hx hb dX2_putIn_12 (lv_at hl 0 rfl) ?_
  refine lv_iconst (v := 1) hx hb dX2_putIn_14 (by decide) ?_
  refine lv_iadd hx hb dX2_putIn_15 ?_
  refine x_puti (C := RX2) (T := TX2) (N := 2) (ci := 2) (a := 3) (k := 0) (v := ((if 31 < (σ.1 3 0 1) then 31 else (σ.1 3 0 1)) + 1)) (ty := .int) hx hb hts iw_X2_putIn_X2 tyX2 tyX2_ok nmX2 hown hK hP hAd hS (in1 hC (a := 3) (by decide) (by decide)) rfl rfl 1 (by decide) (hts (.fieldLink RX2 18 "PageOwners$Mail" "flying" "I") (by decide +kernel)) (fun _ h9 => h9) rfl (by decide +kernel) rfl rfl (Nat.le_of_ble_eq_true rfl) rfl dX2_putIn_16 (fun H locs hP hS => ?_)
  obtain ⟨σ1, e2⟩ : ∃ z, z = sI σ 3 0 1 ((if 31 < (σ.1 3 0 1) then 31 else (σ.1 3 0 1)) + 1) := ⟨_, rfl⟩
  rw [← e2] at hP
  have h := h σ1 e2
  refine lv_aload_n hx hb dX2_putIn_19 rfl (lv_at hl 1 rfl) ?_
  refine x_get (C := RX2) (T := TX2) (N := 2) (ci := 2) (a := 3) (k := 0) (v := .ref (ad (4, 0))) hx hb hts iw_X2_putIn_X2 hown hK hP (in1 hC (a := 3) (by decide) (by decide)) rfl rfl 0 (by decide) (hts (.fieldLink RX2 13 "PageOwners$Mail" "row" "[LPageOwners$Letter;") (by decide +kernel)) (fun _ h9 => h9) rfl dX2_putIn_20 ?_
  refine lv_iload hx hb dX2_putIn_23 (lv_at hl 0 rfl) ?_
  have hin4 := h.1
  have h := h.2
  have hq3 := h.1
  have h := h.2
  refine x_aldL hC hx hb hK hP hin4 dX2_putIn_25 ?_
  refine lv_astore (lv' := [(6, .ref (ad (15, (σ1.2.2 (ix (if 31 < (σ.1 3 0 1) then 31 else (σ.1 3 0 1))))))), (5, .int (if 31 < (σ.1 3 0 1) then 31 else (σ.1 3 0 1))), (0, .ref (ad (3, 0))), (1, .int x1), (2, .int x2), (3, .int x3), (4, .int x4)]) hx hb dX2_putIn_26 hl (by decide) rfl (fun ls hl => ?_)
  refine lv_aload hx hb dX2_putIn_28 (lv_at hl 0 rfl) ?_
  refine lv_iload_n hx hb dX2_putIn_30 rfl (lv_at hl 3 rfl) ?_
  refine x_puti (C := RX1) (T := TX1) (N := 7) (ci := 1) (a := 15) (k := (σ1.2.2 (ix (if 31 < (σ.1 3 0 1) then 31 else (σ.1 3 0 1))))) (v := x1) (ty := .int) hx hb hts iw_X2_putIn_X1 tyX1 tyX1_ok nmX1 hown hK hP hAd hS (in32 hC (a := 15) (by decide) hq3) rfl rfl 0 (by decide) (hts (.fieldLink RX2 28 "PageOwners$Letter" "kind" "I") (by decide +kernel)) (fun _ h9 => h9) rfl (by decide +kernel) rfl rfl (Nat.le_of_ble_eq_true rfl) rfl dX2_putIn_31 (fun H locs hP hS => ?_)
  obtain ⟨σ5, e6⟩ : ∃ z, z = sI σ1 15 (σ1.2.2 (ix (if 31 < (σ.1 3 0 1) then 31 else (σ.1 3 0 1)))) 0 x1 := ⟨_, rfl⟩
  rw [← e6] at hP
  have h := h σ5 e6
  refine lv_aload hx hb dX2_putIn_34 (lv_at hl 0 rfl) ?_
  refine lv_iload_n hx hb dX2_putIn_36 rfl (lv_at hl 4 rfl) ?_
  refine x_puti (C := RX1) (T := TX1) (N := 7) (ci := 1) (a := 15) (k := (σ1.2.2 (ix (if 31 < (σ.1 3 0 1) then 31 else (σ.1 3 0 1))))) (v := x2) (ty := .int) hx hb hts iw_X2_putIn_X1 tyX1 tyX1_ok nmX1 hown hK hP hAd hS (in32 hC (a := 15) (by decide) hq3) rfl rfl 1 (by decide) (hts (.fieldLink RX2 31 "PageOwners$Letter" "from" "I") (by decide +kernel)) (fun _ h9 => h9) rfl (by decide +kernel) rfl rfl (Nat.le_of_ble_eq_true rfl) rfl dX2_putIn_37 (fun H locs hP hS => ?_)
  obtain ⟨σ7, e8⟩ : ∃ z, z = sI σ5 15 (σ1.2.2 (ix (if 31 < (σ.1 3 0 1) then 31 else (σ.1 3 0 1)))) 1 x2 := ⟨_, rfl⟩
  rw [← e8] at hP
  have h := h σ7 e8
  refine lv_aload hx hb dX2_putIn_40 (lv_at hl 0 rfl) ?_
  refine lv_iload_n hx hb dX2_putIn_42 rfl (lv_at hl 5 rfl) ?_
  refine x_puti (C := RX1) (T := TX1) (N := 7) (ci := 1) (a := 15) (k := (σ1.2.2 (ix (if 31 < (σ.1 3 0 1) then 31 else (σ.1 3 0 1))))) (v := x3) (ty := .int) hx hb hts iw_X2_putIn_X1 tyX1 tyX1_ok nmX1 hown hK hP hAd hS (in32 hC (a := 15) (by decide) hq3) rfl rfl 2 (by decide) (hts (.fieldLink RX2 34 "PageOwners$Letter" "to" "I") (by decide +kernel)) (fun _ h9 => h9) rfl (by decide +kernel) rfl rfl (Nat.le_of_ble_eq_true rfl) rfl dX2_putIn_43 (fun H locs hP hS => ?_)
  obtain ⟨σ9, e10⟩ : ∃ z, z = sI σ7 15 (σ1.2.2 (ix (if 31 < (σ.1 3 0 1) then 31 else (σ.1 3 0 1)))) 2 x3 := ⟨_, rfl⟩
  rw [← e10] at hP
  have h := h σ9 e10
  refine lv_aload hx hb dX2_putIn_46 (lv_at hl 0 rfl) ?_
  refine lv_iload hx hb dX2_putIn_48 (lv_at hl 6 rfl) ?_
  refine x_puti (C := RX1) (T := TX1) (N := 7) (ci := 1) (a := 15) (k := (σ1.2.2 (ix (if 31 < (σ.1 3 0 1) then 31 else (σ.1 3 0 1))))) (v := x4) (ty := .int) hx hb hts iw_X2_putIn_X1 tyX1 tyX1_ok nmX1 hown hK hP hAd hS (in32 hC (a := 15) (by decide) hq3) rfl rfl 3 (by decide) (hts (.fieldLink RX2 37 "PageOwners$Letter" "page" "I") (by decide +kernel)) (fun _ h9 => h9) rfl (by decide +kernel) rfl rfl (Nat.le_of_ble_eq_true rfl) rfl dX2_putIn_50 (fun H locs hP hS => ?_)
  obtain ⟨σ11, e12⟩ : ∃ z, z = sI σ9 15 (σ1.2.2 (ix (if 31 < (σ.1 3 0 1) then 31 else (σ.1 3 0 1)))) 3 x4 := ⟨_, rfl⟩
  rw [← e12] at hP
  have h := h σ11 e12
  refine lv_aload hx hb dX2_putIn_53 (lv_at hl 0 rfl) ?_
  refine lv_iconst (v := (-1)) hx hb dX2_putIn_55 (by decide) ?_
  refine x_puti (C := RX1) (T := TX1) (N := 7) (ci := 1) (a := 15) (k := (σ1.2.2 (ix (if 31 < (σ.1 3 0 1) then 31 else (σ.1 3 0 1))))) (v := (-1)) (ty := .int) hx hb hts iw_X2_putIn_X1 tyX1 tyX1_ok nmX1 hown hK hP hAd hS (in32 hC (a := 15) (by decide) hq3) rfl rfl 4 (by decide) (hts (.fieldLink RX2 40 "PageOwners$Letter" "asker" "I") (by decide +kernel)) (fun _ h9 => h9) rfl (by decide +kernel) rfl rfl (Nat.le_of_ble_eq_true rfl) rfl dX2_putIn_56 (fun H locs hP hS => ?_)
  obtain ⟨σ13, e14⟩ : ∃ z, z = sI σ11 15 (σ1.2.2 (ix (if 31 < (σ.1 3 0 1) then 31 else (σ.1 3 0 1)))) 4 (-1) := ⟨_, rfl⟩
  rw [← e14] at hP
  have h := h σ13 e14
  refine lv_aload hx hb dX2_putIn_59 (lv_at hl 0 rfl) ?_
  refine lv_iconst (v := 0) hx hb dX2_putIn_61 (by decide) ?_
  refine x_puti (C := RX1) (T := TX1) (N := 7) (ci := 1) (a := 15) (k := (σ1.2.2 (ix (if 31 < (σ.1 3 0 1) then 31 else (σ.1 3 0 1))))) (v := 0) (ty := .int) hx hb hts iw_X2_putIn_X1 tyX1 tyX1_ok nmX1 hown hK hP hAd hS (in32 hC (a := 15) (by decide) hq3) rfl rfl 5 (by decide) (hts (.fieldLink RX2 43 "PageOwners$Letter" "copySet" "I") (by decide +kernel)) (fun _ h9 => h9) rfl (by decide +kernel) rfl rfl (Nat.le_of_ble_eq_true rfl) rfl dX2_putIn_62 (fun H locs hP hS => ?_)
  obtain ⟨σ15, e16⟩ : ∃ z, z = sI σ13 15 (σ1.2.2 (ix (if 31 < (σ.1 3 0 1) then 31 else (σ.1 3 0 1)))) 5 0 := ⟨_, rfl⟩
  rw [← e16] at hP
  have h := h σ15 e16
  refine lv_aload hx hb dX2_putIn_65 (lv_at hl 0 rfl) ?_
  exact W.aret (v := .ref (ad (15, (σ1.2.2 (ix (if 31 < (σ.1 3 0 1) then 31 else (σ.1 3 0 1))))))) hx hb hr (Or.inl ⟨_, rfl⟩) (Or.inr ⟨_, rfl⟩) (fun t ht hW => ⟨⟨(σ15, (σ1.2.2 (ix (if 31 < (σ.1 3 0 1) then 31 else (σ.1 3 0 1))))), _, rfl, ⟨hq3, h⟩, rfl, by rw [ht]; exact hP, va_K.moved hW.alike hK⟩, hS.F ht⟩) hS.2.2 dX2_putIn_67
theorem iw_X2_takeOut_X2 : ∀ w ∈ wsX20, w ∈ wsX2_takeOut := fun _ h => List.mem_cons_of_mem _ (List.mem_append_right _ h)
def lp_X2_takeOut_9 (x1 : Int32) (Q : Sg → Nat → Prop) : Nat → Sg → Nat → Int32 → Prop
  | 0, _, _, _ => False
  | n + 1, σ, j2, y3 => ((32 ≤ (y3 + 1) → (∀ σ4, σ4 = sR σ (ix 31) j2 → (∀ σ6, σ6 = sI σ4 3 0 1 ((σ4.1 3 0 1) - 1) → Q σ6 j2))) ∧ (¬ (32 ≤ (y3 + 1)) → (vp_in (y3 + 1) 32 ∧ (σ.2.2 (ix (y3 + 1)) < 32 ∧ (vp_in y3 32 ∧ (∀ σ10, σ10 = sR σ (ix y3) (σ.2.2 (ix (y3 + 1))) → lp_X2_takeOut_9 x1 Q n σ10 j2 (y3 + 1)))))))
def wp_X2_takeOut (σ : Sg) (x1 : Int32) (Q : Sg → Nat → Prop) : Prop := (vp_in x1 32 ∧ (σ.2.2 (ix x1) < 32 ∧ (∃ n13, lp_X2_takeOut_9 x1 Q n13 σ (σ.2.2 (ix x1)) x1)))
abbrev rm_X2_takeOut : Room := { frames := 0, cells := 0, slots := 0, locals := 0 }
set_option maxHeartbeats 4000000 in
set_option maxRecDepth 100000 in
theorem c_X2_takeOut (l : Launch) {D : va_G} {P : List (Nat × Nat)} {ad : Nat × Nat → Nat} {cy : Nat → ClassId} (hAd : AdOk P ad) (hC : InC P) (σ : Sg) (x1 : Int32) (Q : Sg → Nat → Prop) (h : wp_X2_takeOut σ x1 Q) : Met l yX2_takeOut wsX2_takeOut rm_X2_takeOut (xPc D P ad cy σ [.ref (ad (3, 0)), .int x1]) (va_Qr (fun u => u.2 < 32 ∧ Q u.1 u.2) (xBr D P ad cy) (Aof P ad)) 0 0 (Aof P ad) := by
  refine Met.ofW (cc := cX2_takeOut) (maxL := 4) (ret := (some (.object "PageOwners$Letter"))) (by decide +kernel) rfl ?_
  intro p e s m args below meth c s₁ B hml hv
  obtain ⟨rfl, hP, hK⟩ := hv
  have hx := B.exec
  have hb := B.bytes
  have hr := B.returns
  have hts := atoms_spec (ws := wsX2_takeOut) B.pre
  have hown : s.vm.findClass RX2 = some m.cls := findClass_of_methodNamed B.named
  have hlocks := B.notSynchronized
  have hS : va_S (Aof P ad) s.heap s.heap [] := va_S.rf
  have hl := lv_entry ([.ref (ad (3, 0)), .int x1] : List Value) (n := 4) (Nat.le_of_ble_eq_true rfl)
  rw [lg_entry_eq]
  generalize (lg_sl ([.ref (ad (3, 0)), .int x1] : List Value) ++ List.replicate (4 - (lg_sl ([.ref (ad (3, 0)), .int x1] : List Value)).length) Slot.unset).toArray = ls at hl ⊢
  have hl : lv_has ls 4 [(0, .ref (ad (3, 0))), (1, .int x1)] := hl
  have L9 : ∀ (n : Nat) (σ : Sg) (j2 : Nat) (hj2 : j2 < 32) (y3 : Int32) (H : Heap) (locs : List Loc) (ls : Array Slot), lp_X2_takeOut_9 x1 Q n σ j2 y3 → Wo D P ad cy σ H → va_S (Aof P ad) s.heap H locs → lv_has ls 4 [(0, .ref (ad (3, 0))), (1, .int x1), (2, .ref (ad (15, j2))), (3, .int y3)] → W p l e (headSpec wsX2_takeOut rm_X2_takeOut).room s m ([.ref (ad (3, 0)), .int x1] : List Value).toArray below meth c H locs 0 0 (MQ below (va_Qr (fun u => u.2 < 32 ∧ Q u.1 u.2) (xBr D P ad cy) (Aof P ad)) ([.ref (ad (3, 0)), .int x1] : List Value).toArray s 0 0 (Aof P ad)) (F0 m 9 ls []) := by
    intro n
    induction n with
    | zero =>
      intro σ j2 hj2 y3 H locs ls h
      exact h.elim
    | succ n ih =>
      intro σ j2 hj2 y3 H locs ls h hP hS hl
      rw [lp_X2_takeOut_9] at h
      refine lv_iload_n hx hb dX2_takeOut_9 rfl (lv_at hl 3 rfl) ?_
      refine lv_iconst (v := 1) hx hb dX2_takeOut_10 (by decide) ?_
      refine lv_iadd hx hb dX2_takeOut_11 ?_
      refine lv_bipush (v := 32) hx hb dX2_takeOut_12 (by decide) ?_
      refine lv_icmp_ge (tgt := 37) hx hb dX2_takeOut_14 (by decide) (fun c3 => ?_) (fun c3 => ?_)
      · have h := h.1 c3
        refine lv_aload_n hx hb dX2_takeOut_37 rfl (lv_at hl 0 rfl) ?_
        refine x_get (C := RX2) (T := TX2) (N := 2) (ci := 2) (a := 3) (k := 0) (v := .ref (ad (4, 0))) hx hb hts iw_X2_takeOut_X2 hown hK hP (in1 hC (a := 3) (by decide) (by decide)) rfl rfl 0 (by decide) (hts (.fieldLink RX2 13 "PageOwners$Mail" "row" "[LPageOwners$Letter;") (by decide +kernel)) (fun _ h9 => h9) rfl dX2_takeOut_38 ?_
        refine lv_bipush (v := 31) hx hb dX2_takeOut_41 (by decide) ?_
        refine lv_aload_n hx hb dX2_takeOut_43 rfl (lv_at hl 2 rfl) ?_
        refine x_astL hC hx hb hK hP hAd hS hj2 (by unfold vp_in; decide) dX2_takeOut_44 (fun H locs hP hS => ?_)
        obtain ⟨σ4, e5⟩ : ∃ z, z = sR σ (ix 31) j2 := ⟨_, rfl⟩
        rw [← e5] at hP
        have h := h σ4 e5
        refine lv_aload_n hx hb dX2_takeOut_45 rfl (lv_at hl 0 rfl) ?_
        refine lv_dup hx hb dX2_takeOut_46 rfl ?_
        refine x_get (C := RX2) (T := TX2) (N := 2) (ci := 2) (a := 3) (k := 0) (v := .int (σ4.1 3 0 1)) hx hb hts iw_X2_takeOut_X2 hown hK hP (in1 hC (a := 3) (by decide) (by decide)) rfl rfl 1 (by decide) (hts (.fieldLink RX2 18 "PageOwners$Mail" "flying" "I") (by decide +kernel)) (fun _ h9 => h9) rfl dX2_takeOut_47 ?_
        refine lv_iconst (v := 1) hx hb dX2_takeOut_50 (by decide) ?_
        refine lv_isub hx hb dX2_takeOut_51 ?_
        refine x_puti (C := RX2) (T := TX2) (N := 2) (ci := 2) (a := 3) (k := 0) (v := ((σ4.1 3 0 1) - 1)) (ty := .int) hx hb hts iw_X2_takeOut_X2 tyX2 tyX2_ok nmX2 hown hK hP hAd hS (in1 hC (a := 3) (by decide) (by decide)) rfl rfl 1 (by decide) (hts (.fieldLink RX2 18 "PageOwners$Mail" "flying" "I") (by decide +kernel)) (fun _ h9 => h9) rfl (by decide +kernel) rfl rfl (Nat.le_of_ble_eq_true rfl) rfl dX2_takeOut_52 (fun H locs hP hS => ?_)
        obtain ⟨σ6, e7⟩ : ∃ z, z = sI σ4 3 0 1 ((σ4.1 3 0 1) - 1) := ⟨_, rfl⟩
        rw [← e7] at hP
        have h := h σ6 e7
        refine lv_aload_n hx hb dX2_takeOut_55 rfl (lv_at hl 2 rfl) ?_
        exact W.aret (v := .ref (ad (15, j2))) hx hb hr (Or.inl ⟨_, rfl⟩) (Or.inr ⟨_, rfl⟩) (fun t ht hW => ⟨⟨(σ6, j2), _, rfl, ⟨hj2, h⟩, rfl, by rw [ht]; exact hP, va_K.moved hW.alike hK⟩, hS.F ht⟩) hS.2.2 dX2_takeOut_56
      · have h := h.2 c3
        refine lv_aload_n hx hb dX2_takeOut_17 rfl (lv_at hl 0 rfl) ?_
        refine x_get (C := RX2) (T := TX2) (N := 2) (ci := 2) (a := 3) (k := 0) (v := .ref (ad (4, 0))) hx hb hts iw_X2_takeOut_X2 hown hK hP (in1 hC (a := 3) (by decide) (by decide)) rfl rfl 0 (by decide) (hts (.fieldLink RX2 13 "PageOwners$Mail" "row" "[LPageOwners$Letter;") (by decide +kernel)) (fun _ h9 => h9) rfl dX2_takeOut_18 ?_
        refine lv_iload_n hx hb dX2_takeOut_21 rfl (lv_at hl 3 rfl) ?_
        refine lv_aload_n hx hb dX2_takeOut_22 rfl (lv_at hl 0 rfl) ?_
        refine x_get (C := RX2) (T := TX2) (N := 2) (ci := 2) (a := 3) (k := 0) (v := .ref (ad (4, 0))) hx hb hts iw_X2_takeOut_X2 hown hK hP (in1 hC (a := 3) (by decide) (by decide)) rfl rfl 0 (by decide) (hts (.fieldLink RX2 13 "PageOwners$Mail" "row" "[LPageOwners$Letter;") (by decide +kernel)) (fun _ h9 => h9) rfl dX2_takeOut_23 ?_
        refine lv_iload_n hx hb dX2_takeOut_26 rfl (lv_at hl 3 rfl) ?_
        refine lv_iconst (v := 1) hx hb dX2_takeOut_27 (by decide) ?_
        refine lv_iadd hx hb dX2_takeOut_28 ?_
        have hin9 := h.1
        have h := h.2
        have hq8 := h.1
        have h := h.2
        refine x_aldL hC hx hb hK hP hin9 dX2_takeOut_29 ?_
        have hin12 := h.1
        have h := h.2
        refine x_astL hC hx hb hK hP hAd hS hq8 hin12 dX2_takeOut_30 (fun H locs hP hS => ?_)
        obtain ⟨σ10, e11⟩ : ∃ z, z = sR σ (ix y3) (σ.2.2 (ix (y3 + 1))) := ⟨_, rfl⟩
        rw [← e11] at hP
        have h := h σ10 e11
        refine lv_iinc (v := (y3 + 1)) (lv' := [(3, .int (y3 + 1)), (0, .ref (ad (3, 0))), (1, .int x1), (2, .ref (ad (15, j2)))]) hx hb dX2_takeOut_31 hl (k := 3) rfl rfl (by decide) rfl (fun ls hl => ?_)
        refine lv_goto (tgt := 9) hx hb dX2_takeOut_34 (by decide) ?_
        exact ih σ10 j2 hj2 (y3 + 1) _ _ _ h hP hS (lv_sub hl [1, 2, 3, 0] rfl)
  unfold wp_X2_takeOut at h
  refine lv_aload_n hx hb dX2_takeOut_0 rfl (lv_at hl 0 rfl) ?_
  refine x_get (C := RX2) (T := TX2) (N := 2) (ci := 2) (a := 3) (k := 0) (v := .ref (ad (4, 0))) hx hb hts iw_X2_takeOut_X2 hown hK hP (in1 hC (a := 3) (by decide) (by decide)) rfl rfl 0 (by decide) (hts (.fieldLink RX2 13 "PageOwners$Mail" "row" "[LPageOwners$Letter;") (by decide +kernel)) (fun _ h9 => h9) rfl dX2_takeOut_1 ?_
  refine lv_iload_n hx hb dX2_takeOut_4 rfl (lv_at hl 1 rfl) ?_
  have hin2 := h.1
  have h := h.2
  have hq1 := h.1
  have h := h.2
  refine x_aldL hC hx hb hK hP hin2 dX2_takeOut_5 ?_
  refine lv_astore_n (lv' := [(2, .ref (ad (15, (σ.2.2 (ix x1))))), (0, .ref (ad (3, 0))), (1, .int x1)]) hx hb dX2_takeOut_6 rfl hl (by decide) rfl (fun ls hl => ?_)
  refine lv_iload_n hx hb dX2_takeOut_7 rfl (lv_at hl 2 rfl) ?_
  refine lv_istore_n (lv' := [(3, .int x1), (2, .ref (ad (15, (σ.2.2 (ix x1))))), (0, .ref (ad (3, 0))), (1, .int x1)]) hx hb dX2_takeOut_8 rfl hl (by decide) rfl (fun ls hl => ?_)
  obtain ⟨n13, h⟩ := h
  exact L9 n13 σ (σ.2.2 (ix x1)) hq1 x1 _ _ _ h hP hS (lv_sub hl [2, 3, 1, 0] rfl)
def lp_J7_fill_d0a16_6 (k1 : Nat) (x2 : Int64) (Q : Sg → Prop) : Nat → Sg → Int32 → Int32 → Prop
  | 0, _, _, _ => False
  | n + 1, σ, y3, y4 => ((y4 ≤ y3 → Q σ) ∧ (¬ (y4 ≤ y3) → (vp_in y3 32 ∧ (∀ σ2, σ2 = sL σ 11 k1 (ix y3) x2 → lp_J7_fill_d0a16_6 k1 x2 Q n σ2 (y3 + 1) y4))))
def wp_J7_fill_d0a16 (σ : Sg) (k1 : Nat) (x2 : Int64) (Q : Sg → Prop) : Prop := (∃ n5, lp_J7_fill_d0a16_6 k1 x2 Q n5 σ 0 32)
abbrev rm_J7_fill_d0a16 : Room := { frames := 0, cells := 0, slots := 0, locals := 0 }
set_option maxHeartbeats 4000000 in
set_option maxRecDepth 100000 in
theorem c_J7_fill_d0a16 (l : Launch) {D : va_G} {P : List (Nat × Nat)} {ad : Nat × Nat → Nat} {cy : Nat → ClassId} (hAd : AdOk P ad) (hC : InC P) (σ : Sg) (k1 : Nat) (hk1 : k1 < 6) (x2 : Int64) (Q : Sg → Prop) (h : wp_J7_fill_d0a16 σ k1 x2 Q) : Met l yJ7_fill_d0a16 wsJ7_fill_d0a16 rm_J7_fill_d0a16 (xPc D P ad cy σ [.ref (ad (11, k1)), .long x2]) (va_Qv Q (xB D P ad cy) (Aof P ad)) 0 0 (Aof P ad) := by
  refine Met.ofW (cc := cJ7_fill_d0a16) (maxL := 5) (ret := none) (by decide +kernel) rfl ?_
  intro p e s m args below meth c s₁ B hml hv
  obtain ⟨rfl, hP, hK⟩ := hv
  have hx := B.exec
  have hb := B.bytes
  have hr := B.returns
  have hts := atoms_spec (ws := wsJ7_fill_d0a16) B.pre
  have hown : s.vm.findClass RJ7 = some m.cls := findClass_of_methodNamed B.named
  have hlocks := B.notSynchronized
  have hS : va_S (Aof P ad) s.heap s.heap [] := va_S.rf
  have hl := lv_entry ([.ref (ad (11, k1)), .long x2] : List Value) (n := 5) (Nat.le_of_ble_eq_true rfl)
  rw [lg_entry_eq]
  generalize (lg_sl ([.ref (ad (11, k1)), .long x2] : List Value) ++ List.replicate (5 - (lg_sl ([.ref (ad (11, k1)), .long x2] : List Value)).length) Slot.unset).toArray = ls at hl ⊢
  have hl : lv_has ls 5 [(0, .ref (ad (11, k1))), (1, .long x2)] := hl
  have L6 : ∀ (n : Nat) (σ : Sg) (y3 : Int32) (y4 : Int32) (H : Heap) (locs : List Loc) (ls : Array Slot), lp_J7_fill_d0a16_6 k1 x2 Q n σ y3 y4 → Wo D P ad cy σ H → va_S (Aof P ad) s.heap H locs → lv_has ls 5 [(0, .ref (ad (11, k1))), (1, .long x2), (3, .int y3), (4, .int y4)] → W p l e (headSpec wsJ7_fill_d0a16 rm_J7_fill_d0a16).room s m ([.ref (ad (11, k1)), .long x2] : List Value).toArray below meth c H locs 0 0 (MQ below (va_Qv Q (xB D P ad cy) (Aof P ad)) ([.ref (ad (11, k1)), .long x2] : List Value).toArray s 0 0 (Aof P ad)) (F0 m 6 ls []) := by
    intro n
    induction n with
    | zero =>
      intro σ y3 y4 H locs ls h
      exact h.elim
    | succ n ih =>
      intro σ y3 y4 H locs ls h hP hS hl
      rw [lp_J7_fill_d0a16_6] at h
      refine lv_iload_n hx hb dJ7_fill_d0a16_6 rfl (lv_at hl 2 rfl) ?_
      refine lv_iload hx hb dJ7_fill_d0a16_7 (lv_at hl 3 rfl) ?_
      refine lv_icmp_ge (tgt := 22) hx hb dJ7_fill_d0a16_9 (by decide) (fun c1 => ?_) (fun c1 => ?_)
      · have h := h.1 c1
        exact W.vret hx hb hr (fun t ht hW => ⟨⟨σ, rfl, h, by rw [ht]; exact hP, va_K.moved hW.alike hK⟩, hS.F ht⟩) hS.2.2 dJ7_fill_d0a16_22
      · have h := h.2 c1
        refine lv_aload_n hx hb dJ7_fill_d0a16_12 rfl (lv_at hl 0 rfl) ?_
        refine lv_iload_n hx hb dJ7_fill_d0a16_13 rfl (lv_at hl 2 rfl) ?_
        refine lv_lload_n hx hb dJ7_fill_d0a16_14 rfl (lv_at hl 1 rfl) ?_
        have hin4 := h.1
        have h := h.2
        refine x_last (a := 11) (k := k1) (n := 32) hx hb hK hP hAd hS (in6 hC (a := 11) (by decide) hk1) (fun _ => rfl) hin4 dJ7_fill_d0a16_15 (fun H locs hP hS => ?_)
        obtain ⟨σ2, e3⟩ : ∃ z, z = sL σ 11 k1 (ix y3) x2 := ⟨_, rfl⟩
        rw [← e3] at hP
        have h := h σ2 e3
        refine lv_iinc (v := (y3 + 1)) (lv' := [(3, .int (y3 + 1)), (0, .ref (ad (11, k1))), (1, .long x2), (4, .int y4)]) hx hb dJ7_fill_d0a16_16 hl (k := 2) rfl rfl (by decide) rfl (fun ls hl => ?_)
        refine lv_goto (tgt := 6) hx hb dJ7_fill_d0a16_19 (by decide) ?_
        exact ih σ2 (y3 + 1) y4 _ _ _ h hP hS (lv_sub hl [1, 2, 0, 3] rfl)
  unfold wp_J7_fill_d0a16 at h
  refine lv_iconst (v := 0) hx hb dJ7_fill_d0a16_0 (by decide) ?_
  refine lv_istore_n (lv' := [(3, .int 0), (0, .ref (ad (11, k1))), (1, .long x2)]) hx hb dJ7_fill_d0a16_1 rfl hl (by decide) rfl (fun ls hl => ?_)
  refine lv_aload_n hx hb dJ7_fill_d0a16_2 rfl (lv_at hl 1 rfl) ?_
  refine x_alen (a := 11) (k := k1) (t0 := 1) (v := 32) hx hb hK hP (in6 hC (a := 11) (by decide) hk1) rfl rfl rfl dJ7_fill_d0a16_3 ?_
  refine lv_istore (lv' := [(4, .int 32), (3, .int 0), (0, .ref (ad (11, k1))), (1, .long x2)]) hx hb dJ7_fill_d0a16_4 hl (by decide) rfl (fun ls hl => ?_)
  obtain ⟨n5, h⟩ := h
  exact L6 n5 σ 0 32 _ _ _ h hP hS (lv_sub hl [2, 3, 1, 0] rfl)
def lp_J7_fill_53178_5 (x2 : Int32) (Q : Sg → Prop) : Nat → Sg → Int32 → Int32 → Prop
  | 0, _, _, _ => False
  | n + 1, σ, y2, y3 => ((y3 ≤ y2 → Q σ) ∧ (¬ (y3 ≤ y2) → (vp_in y2 8 ∧ (∀ σ2, σ2 = sI σ 2 0 (ix y2) x2 → lp_J7_fill_53178_5 x2 Q n σ2 (y2 + 1) y3))))
def wp_J7_fill_53178 (σ : Sg) (x2 : Int32) (Q : Sg → Prop) : Prop := (∃ n5, lp_J7_fill_53178_5 x2 Q n5 σ 0 8)
abbrev rm_J7_fill_53178 : Room := { frames := 0, cells := 0, slots := 0, locals := 0 }
set_option maxHeartbeats 4000000 in
set_option maxRecDepth 100000 in
theorem c_J7_fill_53178 (l : Launch) {D : va_G} {P : List (Nat × Nat)} {ad : Nat × Nat → Nat} {cy : Nat → ClassId} (hAd : AdOk P ad) (hC : InC P) (σ : Sg) (x2 : Int32) (Q : Sg → Prop) (h : wp_J7_fill_53178 σ x2 Q) : Met l yJ7_fill_53178 wsJ7_fill_53178 rm_J7_fill_53178 (xPc D P ad cy σ [.ref (ad (2, 0)), .int x2]) (va_Qv Q (xB D P ad cy) (Aof P ad)) 0 0 (Aof P ad) := by
  refine Met.ofW (cc := cJ7_fill_53178) (maxL := 4) (ret := none) (by decide +kernel) rfl ?_
  intro p e s m args below meth c s₁ B hml hv
  obtain ⟨rfl, hP, hK⟩ := hv
  have hx := B.exec
  have hb := B.bytes
  have hr := B.returns
  have hts := atoms_spec (ws := wsJ7_fill_53178) B.pre
  have hown : s.vm.findClass RJ7 = some m.cls := findClass_of_methodNamed B.named
  have hlocks := B.notSynchronized
  have hS : va_S (Aof P ad) s.heap s.heap [] := va_S.rf
  have hl := lv_entry ([.ref (ad (2, 0)), .int x2] : List Value) (n := 4) (Nat.le_of_ble_eq_true rfl)
  rw [lg_entry_eq]
  generalize (lg_sl ([.ref (ad (2, 0)), .int x2] : List Value) ++ List.replicate (4 - (lg_sl ([.ref (ad (2, 0)), .int x2] : List Value)).length) Slot.unset).toArray = ls at hl ⊢
  have hl : lv_has ls 4 [(0, .ref (ad (2, 0))), (1, .int x2)] := hl
  have L5 : ∀ (n : Nat) (σ : Sg) (y2 : Int32) (y3 : Int32) (H : Heap) (locs : List Loc) (ls : Array Slot), lp_J7_fill_53178_5 x2 Q n σ y2 y3 → Wo D P ad cy σ H → va_S (Aof P ad) s.heap H locs → lv_has ls 4 [(0, .ref (ad (2, 0))), (1, .int x2), (2, .int y2), (3, .int y3)] → W p l e (headSpec wsJ7_fill_53178 rm_J7_fill_53178).room s m ([.ref (ad (2, 0)), .int x2] : List Value).toArray below meth c H locs 0 0 (MQ below (va_Qv Q (xB D P ad cy) (Aof P ad)) ([.ref (ad (2, 0)), .int x2] : List Value).toArray s 0 0 (Aof P ad)) (F0 m 5 ls []) := by
    intro n
    induction n with
    | zero =>
      intro σ y2 y3 H locs ls h
      exact h.elim
    | succ n ih =>
      intro σ y2 y3 H locs ls h hP hS hl
      rw [lp_J7_fill_53178_5] at h
      refine lv_iload_n hx hb dJ7_fill_53178_5 rfl (lv_at hl 2 rfl) ?_
      refine lv_iload_n hx hb dJ7_fill_53178_6 rfl (lv_at hl 3 rfl) ?_
      refine lv_icmp_ge (tgt := 20) hx hb dJ7_fill_53178_7 (by decide) (fun c1 => ?_) (fun c1 => ?_)
      · have h := h.1 c1
        exact W.vret hx hb hr (fun t ht hW => ⟨⟨σ, rfl, h, by rw [ht]; exact hP, va_K.moved hW.alike hK⟩, hS.F ht⟩) hS.2.2 dJ7_fill_53178_20
      · have h := h.2 c1
        refine lv_aload_n hx hb dJ7_fill_53178_10 rfl (lv_at hl 0 rfl) ?_
        refine lv_iload_n hx hb dJ7_fill_53178_11 rfl (lv_at hl 2 rfl) ?_
        refine lv_iload_n hx hb dJ7_fill_53178_12 rfl (lv_at hl 1 rfl) ?_
        have hin4 := h.1
        have h := h.2
        refine x_iast (a := 2) (k := 0) (n := 8) hx hb hK hP hAd hS (in1 hC (a := 2) (by decide) (by decide)) (fun _ => rfl) hin4 dJ7_fill_53178_13 (fun H locs hP hS => ?_)
        obtain ⟨σ2, e3⟩ : ∃ z, z = sI σ 2 0 (ix y2) x2 := ⟨_, rfl⟩
        rw [← e3] at hP
        have h := h σ2 e3
        refine lv_iinc (v := (y2 + 1)) (lv' := [(2, .int (y2 + 1)), (0, .ref (ad (2, 0))), (1, .int x2), (3, .int y3)]) hx hb dJ7_fill_53178_14 hl (k := 2) rfl rfl (by decide) rfl (fun ls hl => ?_)
        refine lv_goto (tgt := 5) hx hb dJ7_fill_53178_17 (by decide) ?_
        exact ih σ2 (y2 + 1) y3 _ _ _ h hP hS (lv_sub hl [1, 2, 0, 3] rfl)
  unfold wp_J7_fill_53178 at h
  refine lv_iconst (v := 0) hx hb dJ7_fill_53178_0 (by decide) ?_
  refine lv_istore_n (lv' := [(2, .int 0), (0, .ref (ad (2, 0))), (1, .int x2)]) hx hb dJ7_fill_53178_1 rfl hl (by decide) rfl (fun ls hl => ?_)
  refine lv_aload_n hx hb dJ7_fill_53178_2 rfl (lv_at hl 1 rfl) ?_
  refine x_alen (a := 2) (k := 0) (t0 := 0) (v := 8) hx hb hK hP (in1 hC (a := 2) (by decide) (by decide)) rfl rfl rfl dJ7_fill_53178_3 ?_
  refine lv_istore_n (lv' := [(3, .int 8), (2, .int 0), (0, .ref (ad (2, 0))), (1, .int x2)]) hx hb dJ7_fill_53178_4 rfl hl (by decide) rfl (fun ls hl => ?_)
  obtain ⟨n5, h⟩ := h
  exact L5 n5 σ 0 8 _ _ _ h hP hS (lv_sub hl [2, 3, 1, 0] rfl)
def wp_J9_floorMod_7cf53 (σ : Sg) (x1 : Int32) (x2 : Int32) (Q : Sg → Int32 → Prop) : Prop := (¬ x2 = 0 ∧ ((0 ≤ (x1 ^^^ x2) → Q σ (x1 - x1 / x2 * x2)) ∧ (¬ (0 ≤ (x1 ^^^ x2)) → (((x1 - x1 / x2 * x2) = 0 → Q σ (x1 - x1 / x2 * x2)) ∧ (¬ ((x1 - x1 / x2 * x2) = 0) → Q σ ((x1 - x1 / x2 * x2) + x2))))))
abbrev rm_J9_floorMod_7cf53 : Room := { frames := 0, cells := 0, slots := 0, locals := 0 }
set_option maxHeartbeats 4000000 in
set_option maxRecDepth 100000 in
theorem c_J9_floorMod_7cf53 (l : Launch) {D : va_G} {P : List (Nat × Nat)} {ad : Nat × Nat → Nat} {cy : Nat → ClassId} (hAd : AdOk P ad) (hC : InC P) (σ : Sg) (x1 : Int32) (x2 : Int32) (Q : Sg → Int32 → Prop) (h : wp_J9_floorMod_7cf53 σ x1 x2 Q) : Met l yJ9_floorMod_7cf53 wsJ9_floorMod_7cf53 rm_J9_floorMod_7cf53 (xPc D P ad cy σ [.int x1, .int x2]) (va_Qi (fun r σ' => Q σ' r) (xB D P ad cy) (Aof P ad)) 0 0 (Aof P ad) := by
  refine va_MetF (cc := cJ9_floorMod_7cf53) (maxL := 3) (ret := (some .int)) (by decide +kernel) rfl ?_
  intro p e s m args below meth c s₁ B hml hv
  obtain ⟨rfl, hP, hK⟩ := hv
  have hx := B.exec
  have hb := B.bytes
  have hr := B.returns
  have hts := atoms_spec (ws := wsJ9_floorMod_7cf53) B.pre
  have hown : s.vm.findClass RJ9 = some m.cls := findClass_of_methodNamed B.named
  have hlocks := B.notSynchronized
  have hS : va_S (Aof P ad) s.heap s.heap [] := va_S.rf
  have hl := lv_entry ([.int x1, .int x2] : List Value) (n := 3) (Nat.le_of_ble_eq_true rfl)
  rw [lg_entry_eq]
  generalize (lg_sl ([.int x1, .int x2] : List Value) ++ List.replicate (3 - (lg_sl ([.int x1, .int x2] : List Value)).length) Slot.unset).toArray = ls at hl ⊢
  have hl : lv_has ls 3 [(0, .int x1), (1, .int x2)] := hl
  unfold wp_J9_floorMod_7cf53 at h
  refine lv_iload_n hx hb dJ9_floorMod_7cf53_0 rfl (lv_at hl 0 rfl) ?_
  refine lv_iload_n hx hb dJ9_floorMod_7cf53_1 rfl (lv_at hl 1 rfl) ?_
  refine lv_irem hx hb dJ9_floorMod_7cf53_2 h.1 ?_
  have h := h.2
  refine lv_istore_n (lv' := [(2, .int (x1 - x1 / x2 * x2)), (0, .int x1), (1, .int x2)]) hx hb dJ9_floorMod_7cf53_3 rfl hl (by decide) rfl (fun ls hl => ?_)
  refine lv_iload_n hx hb dJ9_floorMod_7cf53_4 rfl (lv_at hl 1 rfl) ?_
  refine lv_iload_n hx hb dJ9_floorMod_7cf53_5 rfl (lv_at hl 2 rfl) ?_
  refine lv_ixor hx hb dJ9_floorMod_7cf53_6 ?_
  refine lv_if_ge (tgt := 18) hx hb dJ9_floorMod_7cf53_7 (by decide) (fun c1 => ?_) (fun c1 => ?_)
  · have h := h.1 c1
    refine lv_iload_n hx hb dJ9_floorMod_7cf53_18 rfl (lv_at hl 0 rfl) ?_
    exact W.iret (v := (x1 - x1 / x2 * x2)) hx hb hr (fun t ht hW => ⟨⟨(x1 - x1 / x2 * x2), σ, rfl, h, by rw [ht]; exact hP, va_K.moved hW.alike hK⟩, hS.F ht⟩) hS.2.2 dJ9_floorMod_7cf53_19
  · have h := h.2 c1
    refine lv_iload_n hx hb dJ9_floorMod_7cf53_10 rfl (lv_at hl 0 rfl) ?_
    refine lv_if_eq (tgt := 18) hx hb dJ9_floorMod_7cf53_11 (by decide) (fun c2 => ?_) (fun c2 => ?_)
    · have h := h.1 c2
      refine lv_iload_n hx hb dJ9_floorMod_7cf53_18 rfl (lv_at hl 0 rfl) ?_
      exact W.iret (v := (x1 - x1 / x2 * x2)) hx hb hr (fun t ht hW => ⟨⟨(x1 - x1 / x2 * x2), σ, rfl, h, by rw [ht]; exact hP, va_K.moved hW.alike hK⟩, hS.F ht⟩) hS.2.2 dJ9_floorMod_7cf53_19
    · have h := h.2 c2
      refine lv_iload_n hx hb dJ9_floorMod_7cf53_14 rfl (lv_at hl 0 rfl) ?_
      refine lv_iload_n hx hb dJ9_floorMod_7cf53_15 rfl (lv_at hl 2 rfl) ?_
      refine lv_iadd hx hb dJ9_floorMod_7cf53_16 ?_
      exact W.iret (v := ((x1 - x1 / x2 * x2) + x2)) hx hb hr (fun t ht hW => ⟨⟨((x1 - x1 / x2 * x2) + x2), σ, rfl, h, by rw [ht]; exact hP, va_K.moved hW.alike hK⟩, hS.F ht⟩) hS.2.2 dJ9_floorMod_7cf53_17
theorem iw_X3_putInQueue_X3 : ∀ w ∈ wsX30, w ∈ wsX3_putInQueue := fun _ h => List.mem_cons_of_mem _ (List.mem_append_right _ h)
def wp_X3_putInQueue (σ : Sg) (k0 : Nat) (x1 : Int32) (x2 : Int32) (x3 : Int32) (Q : Sg → Prop) : Prop := (vp_in x2 8 ∧ (((σ.1 12 k0 (ix x2)) < 6 → (vp_in x2 8 ∧ (vp_in ((x2 * 6) + (σ.1 12 k0 (ix x2))) 48 ∧ (∀ σ4, σ4 = sI σ 13 k0 (ix ((x2 * 6) + (σ.1 12 k0 (ix x2)))) x1 → (vp_in ((x2 * 6) + (σ.1 12 k0 (ix x2))) 48 ∧ (∀ σ7, σ7 = sI σ4 14 k0 (ix ((x2 * 6) + (σ.1 12 k0 (ix x2)))) x3 → (vp_in x2 8 ∧ (vp_in x2 8 ∧ (∀ σ11, σ11 = sI σ7 12 k0 (ix x2) ((σ7.1 12 k0 (ix x2)) + 1) → Q σ11))))))))) ∧ (¬ ((σ.1 12 k0 (ix x2)) < 6) → Q σ)))
abbrev rm_X3_putInQueue : Room := { frames := 0, cells := 0, slots := 0, locals := 0 }
set_option maxHeartbeats 4000000 in
set_option maxRecDepth 100000 in
theorem c_X3_putInQueue (l : Launch) {D : va_G} {P : List (Nat × Nat)} {ad : Nat × Nat → Nat} {cy : Nat → ClassId} (hAd : AdOk P ad) (hC : InC P) (σ : Sg) (k0 : Nat) (hk0 : k0 < 6) (x1 : Int32) (x2 : Int32) (x3 : Int32) (Q : Sg → Prop) (h : wp_X3_putInQueue σ k0 x1 x2 x3 Q) : Met l yX3_putInQueue wsX3_putInQueue rm_X3_putInQueue (xPc D P ad cy σ [.ref (ad (5, k0)), .int x1, .int x2, .int x3]) (va_Qv Q (xB D P ad cy) (Aof P ad)) 0 0 (Aof P ad) := by
  refine Met.ofW (cc := cX3_putInQueue) (maxL := 5) (ret := none) (by decide +kernel) rfl ?_
  intro p e s m args below meth c s₁ B hml hv
  obtain ⟨rfl, hP, hK⟩ := hv
  have hx := B.exec
  have hb := B.bytes
  have hr := B.returns
  have hts := atoms_spec (ws := wsX3_putInQueue) B.pre
  have hown : s.vm.findClass RX3 = some m.cls := findClass_of_methodNamed B.named
  have hlocks := B.notSynchronized
  have hS : va_S (Aof P ad) s.heap s.heap [] := va_S.rf
  have hl := lv_entry ([.ref (ad (5, k0)), .int x1, .int x2, .int x3] : List Value) (n := 5) (Nat.le_of_ble_eq_true rfl)
  rw [lg_entry_eq]
  generalize (lg_sl ([.ref (ad (5, k0)), .int x1, .int x2, .int x3] : List Value) ++ List.replicate (5 - (lg_sl ([.ref (ad (5, k0)), .int x1, .int x2, .int x3] : List Value)).length) Slot.unset).toArray = ls at hl ⊢
  have hl : lv_has ls 5 [(0, .ref (ad (5, k0))), (1, .int x1), (2, .int x2), (3, .int x3)] := hl
  unfold wp_X3_putInQueue at h
  refine lv_aload_n hx hb dX3_putInQueue_0 rfl (lv_at hl 0 rfl) ?_
  refine x_get (C := RX3) (T := TX3) (N := 10) (ci := 3) (a := 5) (k := k0) (v := .ref (ad (12, k0))) hx hb hts iw_X3_putInQueue_X3 hown hK hP (in6 hC (a := 5) (by decide) hk0) rfl rfl 7 (by decide) (hts (.fieldLink RX3 36 "PageOwners$Node" "queued" "[I") (by decide +kernel)) (fun _ h9 => h9) rfl dX3_putInQueue_1 ?_
  refine lv_iload_n hx hb dX3_putInQueue_4 rfl (lv_at hl 2 rfl) ?_
  have hin1 := h.1
  have h := h.2
  refine x_iald (a := 12) (k := k0) (n := 8) hx hb hK hP (in6 hC (a := 12) (by decide) hk0) (fun _ => rfl) hin1 dX3_putInQueue_5 ?_
  refine lv_bipush (v := 6) hx hb dX3_putInQueue_6 (by decide) ?_
  refine lv_icmp_lt (tgt := 12) hx hb dX3_putInQueue_8 (by decide) (fun c2 => ?_) (fun c2 => ?_)
  · have h := h.1 c2
    refine lv_iload_n hx hb dX3_putInQueue_12 rfl (lv_at hl 2 rfl) ?_
    refine lv_bipush (v := 6) hx hb dX3_putInQueue_13 (by decide) ?_
    refine lv_imul hx hb dX3_putInQueue_15 ?_
    refine lv_aload_n hx hb dX3_putInQueue_16 rfl (lv_at hl 0 rfl) ?_
    refine x_get (C := RX3) (T := TX3) (N := 10) (ci := 3) (a := 5) (k := k0) (v := .ref (ad (12, k0))) hx hb hts iw_X3_putInQueue_X3 hown hK hP (in6 hC (a := 5) (by decide) hk0) rfl rfl 7 (by decide) (hts (.fieldLink RX3 36 "PageOwners$Node" "queued" "[I") (by decide +kernel)) (fun _ h9 => h9) rfl dX3_putInQueue_17 ?_
    refine lv_iload_n hx hb dX3_putInQueue_20 rfl (lv_at hl 2 rfl) ?_
    have hin3 := h.1
    have h := h.2
    refine x_iald (a := 12) (k := k0) (n := 8) hx hb hK hP (in6 hC (a := 12) (by decide) hk0) (fun _ => rfl) hin3 dX3_putInQueue_21 ?_
    refine lv_iadd hx hb dX3_putInQueue_22 ?_
    refine lv_istore (lv' := [(4, .int ((x2 * 6) + (σ.1 12 k0 (ix x2)))), (0, .ref (ad (5, k0))), (1, .int x1), (2, .int x2), (3, .int x3)]) hx hb dX3_putInQueue_23 hl (by decide) rfl (fun ls hl => ?_)
    refine lv_aload_n hx hb dX3_putInQueue_25 rfl (lv_at hl 1 rfl) ?_
    refine x_get (C := RX3) (T := TX3) (N := 10) (ci := 3) (a := 5) (k := k0) (v := .ref (ad (13, k0))) hx hb hts iw_X3_putInQueue_X3 hown hK hP (in6 hC (a := 5) (by decide) hk0) rfl rfl 8 (by decide) (hts (.fieldLink RX3 39 "PageOwners$Node" "queuedKinds" "[I") (by decide +kernel)) (fun _ h9 => h9) rfl dX3_putInQueue_26 ?_
    refine lv_iload hx hb dX3_putInQueue_29 (lv_at hl 0 rfl) ?_
    refine lv_iload_n hx hb dX3_putInQueue_31 rfl (lv_at hl 2 rfl) ?_
    have hin6 := h.1
    have h := h.2
    refine x_iast (a := 13) (k := k0) (n := 48) hx hb hK hP hAd hS (in6 hC (a := 13) (by decide) hk0) (fun _ => rfl) hin6 dX3_putInQueue_32 (fun H locs hP hS => ?_)
    obtain ⟨σ4, e5⟩ : ∃ z, z = sI σ 13 k0 (ix ((x2 * 6) + (σ.1 12 k0 (ix x2)))) x1 := ⟨_, rfl⟩
    rw [← e5] at hP
    have h := h σ4 e5
    refine lv_aload_n hx hb dX3_putInQueue_33 rfl (lv_at hl 1 rfl) ?_
    refine x_get (C := RX3) (T := TX3) (N := 10) (ci := 3) (a := 5) (k := k0) (v := .ref (ad (14, k0))) hx hb hts iw_X3_putInQueue_X3 hown hK hP (in6 hC (a := 5) (by decide) hk0) rfl rfl 9 (by decide) (hts (.fieldLink RX3 42 "PageOwners$Node" "queuedAskers" "[I") (by decide +kernel)) (fun _ h9 => h9) rfl dX3_putInQueue_34 ?_
    refine lv_iload hx hb dX3_putInQueue_37 (lv_at hl 0 rfl) ?_
    refine lv_iload_n hx hb dX3_putInQueue_39 rfl (lv_at hl 4 rfl) ?_
    have hin9 := h.1
    have h := h.2
    refine x_iast (a := 14) (k := k0) (n := 48) hx hb hK hP hAd hS (in6 hC (a := 14) (by decide) hk0) (fun _ => rfl) hin9 dX3_putInQueue_40 (fun H locs hP hS => ?_)
    obtain ⟨σ7, e8⟩ : ∃ z, z = sI σ4 14 k0 (ix ((x2 * 6) + (σ.1 12 k0 (ix x2)))) x3 := ⟨_, rfl⟩
    rw [← e8] at hP
    have h := h σ7 e8
    refine lv_aload_n hx hb dX3_putInQueue_41 rfl (lv_at hl 1 rfl) ?_
    refine x_get (C := RX3) (T := TX3) (N := 10) (ci := 3) (a := 5) (k := k0) (v := .ref (ad (12, k0))) hx hb hts iw_X3_putInQueue_X3 hown hK hP (in6 hC (a := 5) (by decide) hk0) rfl rfl 7 (by decide) (hts (.fieldLink RX3 36 "PageOwners$Node" "queued" "[I") (by decide +kernel)) (fun _ h9 => h9) rfl dX3_putInQueue_42 ?_
    refine lv_iload_n hx hb dX3_putInQueue_45 rfl (lv_at hl 3 rfl) ?_
    refine lv_dup2_11 hx hb dX3_putInQueue_46 rfl rfl ?_
    have hin10 := h.1
    have h := h.2
    refine x_iald (a := 12) (k := k0) (n := 8) hx hb hK hP (in6 hC (a := 12) (by decide) hk0) (fun _ => rfl) hin10 dX3_putInQueue_47 ?_
    refine lv_iconst (v := 1) hx hb dX3_putInQueue_48 (by decide) ?_
    refine lv_iadd hx hb dX3_putInQueue_49 ?_
    have hin13 := h.1
    have h := h.2
    refine x_iast (a := 12) (k := k0) (n := 8) hx hb hK hP hAd hS (in6 hC (a := 12) (by decide) hk0) (fun _ => rfl) hin13 dX3_putInQueue_50 (fun H locs hP hS => ?_)
    obtain ⟨σ11, e12⟩ : ∃ z, z = sI σ7 12 k0 (ix x2) ((σ7.1 12 k0 (ix x2)) + 1) := ⟨_, rfl⟩
    rw [← e12] at hP
    have h := h σ11 e12
    exact W.vret hx hb hr (fun t ht hW => ⟨⟨σ11, rfl, h, by rw [ht]; exact hP, va_K.moved hW.alike hK⟩, hS.F ht⟩) hS.2.2 dX3_putInQueue_51
  · have h := h.2 c2
    exact W.vret hx hb hr (fun t ht hW => ⟨⟨σ, rfl, h, by rw [ht]; exact hP, va_K.moved hW.alike hK⟩, hS.F ht⟩) hS.2.2 dX3_putInQueue_11
theorem iw_X3_doWhatIsAtHand_X0 : ∀ w ∈ wsX00, w ∈ wsX3_doWhatIsAtHand := fun _ h => List.mem_cons_of_mem _ (List.mem_append_right _ h)
theorem iw_X3_doWhatIsAtHand_X3 : ∀ w ∈ wsX30, w ∈ wsX3_doWhatIsAtHand := fun _ h => List.mem_cons_of_mem _ (List.mem_append_left _ (List.mem_append_right _ h))
def wp_X3_doWhatIsAtHand (σ : Sg) (k0 : Nat) (Q : Sg → Prop) : Prop := (((σ.1 6 k0 4) = 0 → (vp_in (((σ.1 6 k0 2) * 4) + (σ.1 6 k0 3)) 32 ∧ (∀ σ3, σ3 = sL σ 6 k0 9 (σ.2.1 11 k0 (ix (((σ.1 6 k0 2) * 4) + (σ.1 6 k0 3)))) → (∀ σ5, σ5 = sI σ3 6 k0 1 0 → (∀ σ7, σ7 = sI σ5 6 k0 8 ((σ5.1 6 k0 8) + 1) → Q σ7))))) ∧ (¬ ((σ.1 6 k0 4) = 0) → (vp_in (((σ.1 6 k0 2) * 4) + (σ.1 6 k0 3)) 32 ∧ (∀ σ9, σ9 = sL σ 11 k0 (ix (((σ.1 6 k0 2) * 4) + (σ.1 6 k0 3))) (σ.2.1 6 k0 5) → (vp_in (((σ.1 6 k0 2) * 4) + (σ.1 6 k0 3)) 32 ∧ (∀ σ13, σ13 = sL σ9 6 k0 9 (σ9.2.1 11 k0 (ix (((σ.1 6 k0 2) * 4) + (σ.1 6 k0 3)))) → (∀ σ15, σ15 = sI σ13 6 k0 1 0 → (∀ σ17, σ17 = sI σ15 6 k0 8 ((σ15.1 6 k0 8) + 1) → Q σ17))))))))
abbrev rm_X3_doWhatIsAtHand : Room := { frames := 0, cells := 0, slots := 0, locals := 0 }
set_option maxHeartbeats 4000000 in
set_option maxRecDepth 100000 in
theorem c_X3_doWhatIsAtHand (l : Launch) {D : va_G} {P : List (Nat × Nat)} {ad : Nat × Nat → Nat} {cy : Nat → ClassId} (hAd : AdOk P ad) (hC : InC P) (σ : Sg) (k0 : Nat) (hk0 : k0 < 6) (Q : Sg → Prop) (h : wp_X3_doWhatIsAtHand σ k0 Q) : Met l yX3_doWhatIsAtHand wsX3_doWhatIsAtHand rm_X3_doWhatIsAtHand (xPc D P ad cy σ [.ref (ad (5, k0))]) (va_Qv Q (xB D P ad cy) (Aof P ad)) 0 0 (Aof P ad) := by
  refine Met.ofW (cc := cX3_doWhatIsAtHand) (maxL := 2) (ret := none) (by decide +kernel) rfl ?_
  intro p e s m args below meth c s₁ B hml hv
  obtain ⟨rfl, hP, hK⟩ := hv
  have hx := B.exec
  have hb := B.bytes
  have hr := B.returns
  have hts := atoms_spec (ws := wsX3_doWhatIsAtHand) B.pre
  have hown : s.vm.findClass RX3 = some m.cls := findClass_of_methodNamed B.named
  have hlocks := B.notSynchronized
  have hS : va_S (Aof P ad) s.heap s.heap [] := va_S.rf
  have hl := lv_entry ([.ref (ad (5, k0))] : List Value) (n := 2) (Nat.le_of_ble_eq_true rfl)
  rw [lg_entry_eq]
  generalize (lg_sl ([.ref (ad (5, k0))] : List Value) ++ List.replicate (2 - (lg_sl ([.ref (ad (5, k0))] : List Value)).length) Slot.unset).toArray = ls at hl ⊢
  have hl : lv_has ls 2 [(0, .ref (ad (5, k0)))] := hl
  unfold wp_X3_doWhatIsAtHand at h
  refine lv_aload_n hx hb dX3_doWhatIsAtHand_0 rfl (lv_at hl 0 rfl) ?_
  refine x_get (C := RX3) (T := TX3) (N := 10) (ci := 3) (a := 5) (k := k0) (v := .ref (ad (6, k0))) hx hb hts iw_X3_doWhatIsAtHand_X3 hown hK hP (in6 hC (a := 5) (by decide) hk0) rfl rfl 1 (by decide) (hts (.fieldLink RX3 12 "PageOwners$Node" "hand" "LPageOwners$Hand;") (by decide +kernel)) (fun _ h9 => h9) rfl dX3_doWhatIsAtHand_1 ?_
  refine x_get (C := RX0) (T := TX0) (N := 10) (ci := 0) (a := 6) (k := k0) (v := .int (σ.1 6 k0 2)) hx hb hts iw_X3_doWhatIsAtHand_X0 hown hK hP (in6 hC (a := 6) (by decide) hk0) rfl rfl 2 (by decide) (hts (.fieldLink RX3 67 "PageOwners$Hand" "page" "I") (by decide +kernel)) (fun _ h9 => h9) rfl dX3_doWhatIsAtHand_4 ?_
  refine lv_iconst (v := 4) hx hb dX3_doWhatIsAtHand_7 (by decide) ?_
  refine lv_imul hx hb dX3_doWhatIsAtHand_8 ?_
  refine lv_aload_n hx hb dX3_doWhatIsAtHand_9 rfl (lv_at hl 0 rfl) ?_
  refine x_get (C := RX3) (T := TX3) (N := 10) (ci := 3) (a := 5) (k := k0) (v := .ref (ad (6, k0))) hx hb hts iw_X3_doWhatIsAtHand_X3 hown hK hP (in6 hC (a := 5) (by decide) hk0) rfl rfl 1 (by decide) (hts (.fieldLink RX3 12 "PageOwners$Node" "hand" "LPageOwners$Hand;") (by decide +kernel)) (fun _ h9 => h9) rfl dX3_doWhatIsAtHand_10 ?_
  refine x_get (C := RX0) (T := TX0) (N := 10) (ci := 0) (a := 6) (k := k0) (v := .int (σ.1 6 k0 3)) hx hb hts iw_X3_doWhatIsAtHand_X0 hown hK hP (in6 hC (a := 6) (by decide) hk0) rfl rfl 3 (by decide) (hts (.fieldLink RX3 70 "PageOwners$Hand" "word" "I") (by decide +kernel)) (fun _ h9 => h9) rfl dX3_doWhatIsAtHand_13 ?_
  refine lv_iadd hx hb dX3_doWhatIsAtHand_16 ?_
  refine lv_istore_n (lv' := [(1, .int (((σ.1 6 k0 2) * 4) + (σ.1 6 k0 3))), (0, .ref (ad (5, k0)))]) hx hb dX3_doWhatIsAtHand_17 rfl hl (by decide) rfl (fun ls hl => ?_)
  refine lv_aload_n hx hb dX3_doWhatIsAtHand_18 rfl (lv_at hl 1 rfl) ?_
  refine x_get (C := RX3) (T := TX3) (N := 10) (ci := 3) (a := 5) (k := k0) (v := .ref (ad (6, k0))) hx hb hts iw_X3_doWhatIsAtHand_X3 hown hK hP (in6 hC (a := 5) (by decide) hk0) rfl rfl 1 (by decide) (hts (.fieldLink RX3 12 "PageOwners$Node" "hand" "LPageOwners$Hand;") (by decide +kernel)) (fun _ h9 => h9) rfl dX3_doWhatIsAtHand_19 ?_
  refine x_get (C := RX0) (T := TX0) (N := 10) (ci := 0) (a := 6) (k := k0) (v := .int (σ.1 6 k0 4)) hx hb hts iw_X3_doWhatIsAtHand_X0 hown hK hP (in6 hC (a := 6) (by decide) hk0) rfl rfl 4 (by decide) (hts (.fieldLink RX3 73 "PageOwners$Hand" "isWrite" "Z") (by decide +kernel)) (fun _ h9 => h9) rfl dX3_doWhatIsAtHand_22 ?_
  refine lv_if_eq (tgt := 41) hx hb dX3_doWhatIsAtHand_25 (by decide) (fun c1 => ?_) (fun c1 => ?_)
  · have h := h.1 c1
    refine lv_aload_n hx hb dX3_doWhatIsAtHand_41 rfl (lv_at hl 1 rfl) ?_
    refine x_get (C := RX3) (T := TX3) (N := 10) (ci := 3) (a := 5) (k := k0) (v := .ref (ad (6, k0))) hx hb hts iw_X3_doWhatIsAtHand_X3 hown hK hP (in6 hC (a := 5) (by decide) hk0) rfl rfl 1 (by decide) (hts (.fieldLink RX3 12 "PageOwners$Node" "hand" "LPageOwners$Hand;") (by decide +kernel)) (fun _ h9 => h9) rfl dX3_doWhatIsAtHand_42 ?_
    refine lv_aload_n hx hb dX3_doWhatIsAtHand_45 rfl (lv_at hl 1 rfl) ?_
    refine x_get (C := RX3) (T := TX3) (N := 10) (ci := 3) (a := 5) (k := k0) (v := .ref (ad (11, k0))) hx hb hts iw_X3_doWhatIsAtHand_X3 hown hK hP (in6 hC (a := 5) (by decide) hk0) rfl rfl 6 (by decide) (hts (.fieldLink RX3 32 "PageOwners$Node" "words" "[J") (by decide +kernel)) (fun _ h9 => h9) rfl dX3_doWhatIsAtHand_46 ?_
    refine lv_iload_n hx hb dX3_doWhatIsAtHand_49 rfl (lv_at hl 0 rfl) ?_
    have hin2 := h.1
    have h := h.2
    refine x_lald (a := 11) (k := k0) (n := 32) hx hb hK hP (in6 hC (a := 11) (by decide) hk0) (fun _ => rfl) hin2 dX3_doWhatIsAtHand_50 ?_
    refine x_putl (C := RX0) (T := TX0) (N := 10) (ci := 0) (a := 6) (k := k0) (v := (σ.2.1 11 k0 (ix (((σ.1 6 k0 2) * 4) + (σ.1 6 k0 3))))) (ty := .long) hx hb hts iw_X3_doWhatIsAtHand_X0 tyX0 tyX0_ok nmX0 hown hK hP hAd hS (in6 hC (a := 6) (by decide) hk0) rfl rfl 9 (by decide) (hts (.fieldLink RX3 81 "PageOwners$Hand" "result" "J") (by decide +kernel)) (fun _ h9 => h9) rfl (by decide +kernel) rfl rfl (Nat.le_of_ble_eq_true rfl) rfl dX3_doWhatIsAtHand_51 (fun H locs hP hS => ?_)
    obtain ⟨σ3, e4⟩ : ∃ z, z = sL σ 6 k0 9 (σ.2.1 11 k0 (ix (((σ.1 6 k0 2) * 4) + (σ.1 6 k0 3)))) := ⟨_, rfl⟩
    rw [← e4] at hP
    have h := h σ3 e4
    refine lv_aload_n hx hb dX3_doWhatIsAtHand_54 rfl (lv_at hl 1 rfl) ?_
    refine x_get (C := RX3) (T := TX3) (N := 10) (ci := 3) (a := 5) (k := k0) (v := .ref (ad (6, k0))) hx hb hts iw_X3_doWhatIsAtHand_X3 hown hK hP (in6 hC (a := 5) (by decide) hk0) rfl rfl 1 (by decide) (hts (.fieldLink RX3 12 "PageOwners$Node" "hand" "LPageOwners$Hand;") (by decide +kernel)) (fun _ h9 => h9) rfl dX3_doWhatIsAtHand_55 ?_
    refine lv_iconst (v := 0) hx hb dX3_doWhatIsAtHand_58 (by decide) ?_
    refine x_puti (C := RX0) (T := TX0) (N := 10) (ci := 0) (a := 6) (k := k0) (v := 0) (ty := .int) hx hb hts iw_X3_doWhatIsAtHand_X0 tyX0 tyX0_ok nmX0 hown hK hP hAd hS (in6 hC (a := 6) (by decide) hk0) rfl rfl 1 (by decide) (hts (.fieldLink RX3 84 "PageOwners$Hand" "waitsFor" "I") (by decide +kernel)) (fun _ h9 => h9) rfl (by decide +kernel) rfl rfl (Nat.le_of_ble_eq_true rfl) rfl dX3_doWhatIsAtHand_59 (fun H locs hP hS => ?_)
    obtain ⟨σ5, e6⟩ : ∃ z, z = sI σ3 6 k0 1 0 := ⟨_, rfl⟩
    rw [← e6] at hP
    have h := h σ5 e6
    refine lv_aload_n hx hb dX3_doWhatIsAtHand_62 rfl (lv_at hl 1 rfl) ?_
    refine x_get (C := RX3) (T := TX3) (N := 10) (ci := 3) (a := 5) (k := k0) (v := .ref (ad (6, k0))) hx hb hts iw_X3_doWhatIsAtHand_X3 hown hK hP (in6 hC (a := 5) (by decide) hk0) rfl rfl 1 (by decide) (hts (.fieldLink RX3 12 "PageOwners$Node" "hand" "LPageOwners$Hand;") (by decide +kernel)) (fun _ h9 => h9) rfl dX3_doWhatIsAtHand_63 ?_
    refine lv_dup hx hb dX3_doWhatIsAtHand_66 rfl ?_
    refine x_get (C := RX0) (T := TX0) (N := 10) (ci := 0) (a := 6) (k := k0) (v := .int (σ5.1 6 k0 8)) hx hb hts iw_X3_doWhatIsAtHand_X0 hown hK hP (in6 hC (a := 6) (by decide) hk0) rfl rfl 8 (by decide) (hts (.fieldLink RX3 87 "PageOwners$Hand" "done" "I") (by decide +kernel)) (fun _ h9 => h9) rfl dX3_doWhatIsAtHand_67 ?_
    refine lv_iconst (v := 1) hx hb dX3_doWhatIsAtHand_70 (by decide) ?_
    refine lv_iadd hx hb dX3_doWhatIsAtHand_71 ?_
    refine x_puti (C := RX0) (T := TX0) (N := 10) (ci := 0) (a := 6) (k := k0) (v := ((σ5.1 6 k0 8) + 1)) (ty := .int) hx hb hts iw_X3_doWhatIsAtHand_X0 tyX0 tyX0_ok nmX0 hown hK hP hAd hS (in6 hC (a := 6) (by decide) hk0) rfl rfl 8 (by decide) (hts (.fieldLink RX3 87 "PageOwners$Hand" "done" "I") (by decide +kernel)) (fun _ h9 => h9) rfl (by decide +kernel) rfl rfl (Nat.le_of_ble_eq_true rfl) rfl dX3_doWhatIsAtHand_72 (fun H locs hP hS => ?_)
    obtain ⟨σ7, e8⟩ : ∃ z, z = sI σ5 6 k0 8 ((σ5.1 6 k0 8) + 1) := ⟨_, rfl⟩
    rw [← e8] at hP
    have h := h σ7 e8
    exact W.vret hx hb hr (fun t ht hW => ⟨⟨σ7, rfl, h, by rw [ht]; exact hP, va_K.moved hW.alike hK⟩, hS.F ht⟩) hS.2.2 dX3_doWhatIsAtHand_75
  · have h := h.2 c1
    refine lv_aload_n hx hb dX3_doWhatIsAtHand_28 rfl (lv_at hl 1 rfl) ?_
    refine x_get (C := RX3) (T := TX3) (N := 10) (ci := 3) (a := 5) (k := k0) (v := .ref (ad (11, k0))) hx hb hts iw_X3_doWhatIsAtHand_X3 hown hK hP (in6 hC (a := 5) (by decide) hk0) rfl rfl 6 (by decide) (hts (.fieldLink RX3 32 "PageOwners$Node" "words" "[J") (by decide +kernel)) (fun _ h9 => h9) rfl dX3_doWhatIsAtHand_29 ?_
    refine lv_iload_n hx hb dX3_doWhatIsAtHand_32 rfl (lv_at hl 0 rfl) ?_
    refine lv_aload_n hx hb dX3_doWhatIsAtHand_33 rfl (lv_at hl 1 rfl) ?_
    refine x_get (C := RX3) (T := TX3) (N := 10) (ci := 3) (a := 5) (k := k0) (v := .ref (ad (6, k0))) hx hb hts iw_X3_doWhatIsAtHand_X3 hown hK hP (in6 hC (a := 5) (by decide) hk0) rfl rfl 1 (by decide) (hts (.fieldLink RX3 12 "PageOwners$Node" "hand" "LPageOwners$Hand;") (by decide +kernel)) (fun _ h9 => h9) rfl dX3_doWhatIsAtHand_34 ?_
    refine x_get (C := RX0) (T := TX0) (N := 10) (ci := 0) (a := 6) (k := k0) (v := .long (σ.2.1 6 k0 5)) hx hb hts iw_X3_doWhatIsAtHand_X0 hown hK hP (in6 hC (a := 6) (by decide) hk0) rfl rfl 5 (by decide) (hts (.fieldLink RX3 77 "PageOwners$Hand" "value" "J") (by decide +kernel)) (fun _ h9 => h9) rfl dX3_doWhatIsAtHand_37 ?_
    have hin11 := h.1
    have h := h.2
    refine x_last (a := 11) (k := k0) (n := 32) hx hb hK hP hAd hS (in6 hC (a := 11) (by decide) hk0) (fun _ => rfl) hin11 dX3_doWhatIsAtHand_40 (fun H locs hP hS => ?_)
    obtain ⟨σ9, e10⟩ : ∃ z, z = sL σ 11 k0 (ix (((σ.1 6 k0 2) * 4) + (σ.1 6 k0 3))) (σ.2.1 6 k0 5) := ⟨_, rfl⟩
    rw [← e10] at hP
    have h := h σ9 e10
    refine lv_aload_n hx hb dX3_doWhatIsAtHand_41 rfl (lv_at hl 1 rfl) ?_
    refine x_get (C := RX3) (T := TX3) (N := 10) (ci := 3) (a := 5) (k := k0) (v := .ref (ad (6, k0))) hx hb hts iw_X3_doWhatIsAtHand_X3 hown hK hP (in6 hC (a := 5) (by decide) hk0) rfl rfl 1 (by decide) (hts (.fieldLink RX3 12 "PageOwners$Node" "hand" "LPageOwners$Hand;") (by decide +kernel)) (fun _ h9 => h9) rfl dX3_doWhatIsAtHand_42 ?_
    refine lv_aload_n hx hb dX3_doWhatIsAtHand_45 rfl (lv_at hl 1 rfl) ?_
    refine x_get (C := RX3) (T := TX3) (N := 10) (ci := 3) (a := 5) (k := k0) (v := .ref (ad (11, k0))) hx hb hts iw_X3_doWhatIsAtHand_X3 hown hK hP (in6 hC (a := 5) (by decide) hk0) rfl rfl 6 (by decide) (hts (.fieldLink RX3 32 "PageOwners$Node" "words" "[J") (by decide +kernel)) (fun _ h9 => h9) rfl dX3_doWhatIsAtHand_46 ?_
    refine lv_iload_n hx hb dX3_doWhatIsAtHand_49 rfl (lv_at hl 0 rfl) ?_
    have hin12 := h.1
    have h := h.2
    refine x_lald (a := 11) (k := k0) (n := 32) hx hb hK hP (in6 hC (a := 11) (by decide) hk0) (fun _ => rfl) hin12 dX3_doWhatIsAtHand_50 ?_
    refine x_putl (C := RX0) (T := TX0) (N := 10) (ci := 0) (a := 6) (k := k0) (v := (σ9.2.1 11 k0 (ix (((σ.1 6 k0 2) * 4) + (σ.1 6 k0 3))))) (ty := .long) hx hb hts iw_X3_doWhatIsAtHand_X0 tyX0 tyX0_ok nmX0 hown hK hP hAd hS (in6 hC (a := 6) (by decide) hk0) rfl rfl 9 (by decide) (hts (.fieldLink RX3 81 "PageOwners$Hand" "result" "J") (by decide +kernel)) (fun _ h9 => h9) rfl (by decide +kernel) rfl rfl (Nat.le_of_ble_eq_true rfl) rfl dX3_doWhatIsAtHand_51 (fun H locs hP hS => ?_)
    obtain ⟨σ13, e14⟩ : ∃ z, z = sL σ9 6 k0 9 (σ9.2.1 11 k0 (ix (((σ.1 6 k0 2) * 4) + (σ.1 6 k0 3)))) := ⟨_, rfl⟩
    rw [← e14] at hP
    have h := h σ13 e14
    refine lv_aload_n hx hb dX3_doWhatIsAtHand_54 rfl (lv_at hl 1 rfl) ?_
    refine x_get (C := RX3) (T := TX3) (N := 10) (ci := 3) (a := 5) (k := k0) (v := .ref (ad (6, k0))) hx hb hts iw_X3_doWhatIsAtHand_X3 hown hK hP (in6 hC (a := 5) (by decide) hk0) rfl rfl 1 (by decide) (hts (.fieldLink RX3 12 "PageOwners$Node" "hand" "LPageOwners$Hand;") (by decide +kernel)) (fun _ h9 => h9) rfl dX3_doWhatIsAtHand_55 ?_
    refine lv_iconst (v := 0) hx hb dX3_doWhatIsAtHand_58 (by decide) ?_
    refine x_puti (C := RX0) (T := TX0) (N := 10) (ci := 0) (a := 6) (k := k0) (v := 0) (ty := .int) hx hb hts iw_X3_doWhatIsAtHand_X0 tyX0 tyX0_ok nmX0 hown hK hP hAd hS (in6 hC (a := 6) (by decide) hk0) rfl rfl 1 (by decide) (hts (.fieldLink RX3 84 "PageOwners$Hand" "waitsFor" "I") (by decide +kernel)) (fun _ h9 => h9) rfl (by decide +kernel) rfl rfl (Nat.le_of_ble_eq_true rfl) rfl dX3_doWhatIsAtHand_59 (fun H locs hP hS => ?_)
    obtain ⟨σ15, e16⟩ : ∃ z, z = sI σ13 6 k0 1 0 := ⟨_, rfl⟩
    rw [← e16] at hP
    have h := h σ15 e16
    refine lv_aload_n hx hb dX3_doWhatIsAtHand_62 rfl (lv_at hl 1 rfl) ?_
    refine x_get (C := RX3) (T := TX3) (N := 10) (ci := 3) (a := 5) (k := k0) (v := .ref (ad (6, k0))) hx hb hts iw_X3_doWhatIsAtHand_X3 hown hK hP (in6 hC (a := 5) (by decide) hk0) rfl rfl 1 (by decide) (hts (.fieldLink RX3 12 "PageOwners$Node" "hand" "LPageOwners$Hand;") (by decide +kernel)) (fun _ h9 => h9) rfl dX3_doWhatIsAtHand_63 ?_
    refine lv_dup hx hb dX3_doWhatIsAtHand_66 rfl ?_
    refine x_get (C := RX0) (T := TX0) (N := 10) (ci := 0) (a := 6) (k := k0) (v := .int (σ15.1 6 k0 8)) hx hb hts iw_X3_doWhatIsAtHand_X0 hown hK hP (in6 hC (a := 6) (by decide) hk0) rfl rfl 8 (by decide) (hts (.fieldLink RX3 87 "PageOwners$Hand" "done" "I") (by decide +kernel)) (fun _ h9 => h9) rfl dX3_doWhatIsAtHand_67 ?_
    refine lv_iconst (v := 1) hx hb dX3_doWhatIsAtHand_70 (by decide) ?_
    refine lv_iadd hx hb dX3_doWhatIsAtHand_71 ?_
    refine x_puti (C := RX0) (T := TX0) (N := 10) (ci := 0) (a := 6) (k := k0) (v := ((σ15.1 6 k0 8) + 1)) (ty := .int) hx hb hts iw_X3_doWhatIsAtHand_X0 tyX0 tyX0_ok nmX0 hown hK hP hAd hS (in6 hC (a := 6) (by decide) hk0) rfl rfl 8 (by decide) (hts (.fieldLink RX3 87 "PageOwners$Hand" "done" "I") (by decide +kernel)) (fun _ h9 => h9) rfl (by decide +kernel) rfl rfl (Nat.le_of_ble_eq_true rfl) rfl dX3_doWhatIsAtHand_72 (fun H locs hP hS => ?_)
    obtain ⟨σ17, e18⟩ : ∃ z, z = sI σ15 6 k0 8 ((σ15.1 6 k0 8) + 1) := ⟨_, rfl⟩
    rw [← e18] at hP
    have h := h σ17 e18
    exact W.vret hx hb hr (fun t ht hW => ⟨⟨σ17, rfl, h, by rw [ht]; exact hP, va_K.moved hW.alike hK⟩, hS.F ht⟩) hS.2.2 dX3_doWhatIsAtHand_75
theorem iw_X3_startAnew_X3 : ∀ w ∈ wsX30, w ∈ wsX3_startAnew := fun _ h => List.mem_cons_of_mem _ (List.mem_append_left _ (List.mem_append_right _ h))
def lp_X3_startAnew_17 (k0 : Nat) (x1 : Int32) (Q : Sg → Prop) : Nat → Sg → Int32 → Prop
  | 0, _, _ => False
  | n + 1, σ, y2 => ((8 ≤ y2 → Q σ) ∧ (¬ (8 ≤ y2) → (wp_J9_floorMod_7cf53 σ y2 (if x1 < 1 then 1 else x1) (fun σ8 r9 => ((r9 = (σ8.1 5 k0 0) → (vp_in y2 8 ∧ (∀ σ12, σ12 = sI σ8 8 k0 (ix y2) 1 → (vp_in y2 8 ∧ (((σ12.1 8 k0 (ix y2)) = 0 → (vp_in y2 8 ∧ (∀ σ17, σ17 = sI σ12 7 k0 (ix y2) 0 → (vp_in y2 8 ∧ (∀ σ20, σ20 = sI σ17 9 k0 (ix y2) r9 → (vp_in y2 8 ∧ (∀ σ23, σ23 = sI σ20 10 k0 (ix y2) 0 → (vp_in y2 8 ∧ (∀ σ26, σ26 = sI σ23 12 k0 (ix y2) 0 → lp_X3_startAnew_17 k0 x1 Q n σ26 (y2 + 1)))))))))) ∧ (¬ ((σ12.1 8 k0 (ix y2)) = 0) → (vp_in y2 8 ∧ (∀ σ29, σ29 = sI σ12 7 k0 (ix y2) 2 → (vp_in y2 8 ∧ (∀ σ32, σ32 = sI σ29 9 k0 (ix y2) r9 → (vp_in y2 8 ∧ (∀ σ35, σ35 = sI σ32 10 k0 (ix y2) 0 → (vp_in y2 8 ∧ (∀ σ38, σ38 = sI σ35 12 k0 (ix y2) 0 → lp_X3_startAnew_17 k0 x1 Q n σ38 (y2 + 1))))))))))))))) ∧ (¬ (r9 = (σ8.1 5 k0 0)) → (vp_in y2 8 ∧ (∀ σ41, σ41 = sI σ8 8 k0 (ix y2) 0 → (vp_in y2 8 ∧ (((σ41.1 8 k0 (ix y2)) = 0 → (vp_in y2 8 ∧ (∀ σ46, σ46 = sI σ41 7 k0 (ix y2) 0 → (vp_in y2 8 ∧ (∀ σ49, σ49 = sI σ46 9 k0 (ix y2) r9 → (vp_in y2 8 ∧ (∀ σ52, σ52 = sI σ49 10 k0 (ix y2) 0 → (vp_in y2 8 ∧ (∀ σ55, σ55 = sI σ52 12 k0 (ix y2) 0 → lp_X3_startAnew_17 k0 x1 Q n σ55 (y2 + 1)))))))))) ∧ (¬ ((σ41.1 8 k0 (ix y2)) = 0) → (vp_in y2 8 ∧ (∀ σ58, σ58 = sI σ41 7 k0 (ix y2) 2 → (vp_in y2 8 ∧ (∀ σ61, σ61 = sI σ58 9 k0 (ix y2) r9 → (vp_in y2 8 ∧ (∀ σ64, σ64 = sI σ61 10 k0 (ix y2) 0 → (vp_in y2 8 ∧ (∀ σ67, σ67 = sI σ64 12 k0 (ix y2) 0 → lp_X3_startAnew_17 k0 x1 Q n σ67 (y2 + 1))))))))))))))))))))
def wp_X3_startAnew (σ : Sg) (k0 : Nat) (x1 : Int32) (Q : Sg → Prop) : Prop := (wp_X0_startAnew σ k0 (fun σ1 => (wp_J7_fill_d0a16 σ1 k0 0 (fun σ4 => (∃ n70, lp_X3_startAnew_17 k0 x1 Q n70 σ4 0)))))
abbrev rm_X3_startAnew : Room := { frames := 2, cells := 0, slots := 0, locals := 45 }
set_option maxHeartbeats 4000000 in
set_option maxRecDepth 100000 in
theorem c_X3_startAnew (l : Launch) {D : va_G} {P : List (Nat × Nat)} {ad : Nat × Nat → Nat} {cy : Nat → ClassId} (hAd : AdOk P ad) (hC : InC P) (σ : Sg) (k0 : Nat) (hk0 : k0 < 6) (x1 : Int32) (Q : Sg → Prop) (h : wp_X3_startAnew σ k0 x1 Q) : Met l yX3_startAnew wsX3_startAnew rm_X3_startAnew (xPc D P ad cy σ [.ref (ad (5, k0)), .int x1]) (va_Qv Q (xB D P ad cy) (Aof P ad)) 0 0 (Aof P ad) := by
  refine Met.ofW (cc := cX3_startAnew) (maxL := 4) (ret := none) (by decide +kernel) rfl ?_
  intro p e s m args below meth c s₁ B hml hv
  obtain ⟨rfl, hP, hK⟩ := hv
  have hx := B.exec
  have hb := B.bytes
  have hr := B.returns
  have hts := atoms_spec (ws := wsX3_startAnew) B.pre
  have hown : s.vm.findClass RX3 = some m.cls := findClass_of_methodNamed B.named
  have hlocks := B.notSynchronized
  have hS : va_S (Aof P ad) s.heap s.heap [] := va_S.rf
  have hl := lv_entry ([.ref (ad (5, k0)), .int x1] : List Value) (n := 4) (Nat.le_of_ble_eq_true rfl)
  rw [lg_entry_eq]
  generalize (lg_sl ([.ref (ad (5, k0)), .int x1] : List Value) ++ List.replicate (4 - (lg_sl ([.ref (ad (5, k0)), .int x1] : List Value)).length) Slot.unset).toArray = ls at hl ⊢
  have hl : lv_has ls 4 [(0, .ref (ad (5, k0))), (1, .int x1)] := hl
  have L17 : ∀ (n : Nat) (σ : Sg) (y2 : Int32) (H : Heap) (locs : List Loc) (ls : Array Slot), lp_X3_startAnew_17 k0 x1 Q n σ y2 → Wo D P ad cy σ H → va_S (Aof P ad) s.heap H locs → lv_has ls 4 [(0, .ref (ad (5, k0))), (1, .int x1), (2, .int y2)] → W p l e (headSpec wsX3_startAnew rm_X3_startAnew).room s m ([.ref (ad (5, k0)), .int x1] : List Value).toArray below meth c H locs 0 0 (MQ below (va_Qv Q (xB D P ad cy) (Aof P ad)) ([.ref (ad (5, k0)), .int x1] : List Value).toArray s 0 0 (Aof P ad)) (F0 m 17 ls []) := by
    intro n
    induction n with
    | zero =>
      intro σ y2 H locs ls h
      exact h.elim
    | succ n ih =>
      intro σ y2 H locs ls h hP hS hl
      rw [lp_X3_startAnew_17] at h
      refine lv_iload_n hx hb dX3_startAnew_17 rfl (lv_at hl 2 rfl) ?_
      refine lv_bipush (v := 8) hx hb dX3_startAnew_18 (by decide) ?_
      refine lv_icmp_ge (tgt := 99) hx hb dX3_startAnew_20 (by decide) (fun c7 => ?_) (fun c7 => ?_)
      · have h := h.1 c7
        exact W.vret hx hb hr (fun t ht hW => ⟨⟨σ, rfl, h, by rw [ht]; exact hP, va_K.moved hW.alike hK⟩, hS.F ht⟩) hS.2.2 dX3_startAnew_99
      · have h := h.2 c7
        refine lv_iload_n hx hb dX3_startAnew_23 rfl (lv_at hl 2 rfl) ?_
        refine lv_iload_n hx hb dX3_startAnew_24 rfl (lv_at hl 1 rfl) ?_
        refine lv_iconst (v := 1) hx hb dX3_startAnew_25 (by decide) ?_
        refine va_mmax hx hb (hml.trans hl.1.symm) hown (hts (.methodLink RX3 58 Lib.Math.max.name) (by decide +kernel)) (hts (.static Lib.Math.max.name) (by decide +kernel)) (hts (.initialized "java/lang/Math") (by decide +kernel)) (hts (.code Lib.Math.max.name Lib.Math.max.code 2 (some .int)) (by decide +kernel)) (Nat.le_of_ble_eq_true rfl) (Nat.le_of_ble_eq_true rfl) (Nat.zero_le _) (Nat.zero_le _) dX3_startAnew_26 ?_
        refine x_cSi (As := [.int y2, .int (if x1 < 1 then 1 else x1)]) (rest := []) ⟨hx, hb, hml, hown, hts⟩ hK hP hS (c_J9_floorMod_7cf53 l hAd hC σ y2 (if x1 < 1 then 1 else x1) _ h) (va_cwS 2 hts gX3_startAnew_J9_floorMod_7cf53 rfl rfl rfl (by decide +kernel) ⟨Nat.le_of_ble_eq_true rfl, Nat.le_of_ble_eq_true rfl⟩) rfl hl.1 rfl (Nat.le_of_ble_eq_true rfl) dX3_startAnew_29 ⟨Nat.zero_le _, Nat.zero_le _⟩ (fun r9 σ8 H locs h hP hS => ?_)
        refine lv_istore_n (lv' := [(3, .int r9), (0, .ref (ad (5, k0))), (1, .int x1), (2, .int y2)]) hx hb dX3_startAnew_32 rfl hl (by decide) rfl (fun ls hl => ?_)
        refine lv_aload_n hx hb dX3_startAnew_33 rfl (lv_at hl 1 rfl) ?_
        refine x_get (C := RX3) (T := TX3) (N := 10) (ci := 3) (a := 5) (k := k0) (v := .ref (ad (8, k0))) hx hb hts iw_X3_startAnew_X3 hown hK hP (in6 hC (a := 5) (by decide) hk0) rfl rfl 3 (by decide) (hts (.fieldLink RX3 22 "PageOwners$Node" "owns" "[Z") (by decide +kernel)) (fun _ h9 => h9) rfl dX3_startAnew_34 ?_
        refine lv_iload_n hx hb dX3_startAnew_37 rfl (lv_at hl 3 rfl) ?_
        refine lv_iload_n hx hb dX3_startAnew_38 rfl (lv_at hl 0 rfl) ?_
        refine lv_aload_n hx hb dX3_startAnew_39 rfl (lv_at hl 1 rfl) ?_
        refine x_get (C := RX3) (T := TX3) (N := 10) (ci := 3) (a := 5) (k := k0) (v := .int (σ8.1 5 k0 0)) hx hb hts iw_X3_startAnew_X3 hown hK hP (in6 hC (a := 5) (by decide) hk0) rfl rfl 0 (by decide) (hts (.fieldLink RX3 45 "PageOwners$Node" "number" "I") (by decide +kernel)) (fun _ h9 => h9) rfl dX3_startAnew_40 ?_
        refine lv_icmp_ne (tgt := 50) hx hb dX3_startAnew_43 (by decide) (fun c11 => ?_) (fun c11 => ?_)
        · have h := h.2 c11
          refine lv_iconst (v := 0) hx hb dX3_startAnew_50 (by decide) ?_
          have hin43 := h.1
          have h := h.2
          refine x_zast (a := 8) (k := k0) (n := 8) hx hb hK hP hAd hS (in6 hC (a := 8) (by decide) hk0) (fun _ => rfl) hin43 (by decide) dX3_startAnew_51 (fun H locs hP hS => ?_)
          obtain ⟨σ41, e42⟩ : ∃ z, z = sI σ8 8 k0 (ix y2) 0 := ⟨_, rfl⟩
          rw [← e42] at hP
          have h := h σ41 e42
          refine lv_aload_n hx hb dX3_startAnew_52 rfl (lv_at hl 1 rfl) ?_
          refine x_get (C := RX3) (T := TX3) (N := 10) (ci := 3) (a := 5) (k := k0) (v := .ref (ad (7, k0))) hx hb hts iw_X3_startAnew_X3 hown hK hP (in6 hC (a := 5) (by decide) hk0) rfl rfl 2 (by decide) (hts (.fieldLink RX3 18 "PageOwners$Node" "accessTo" "[I") (by decide +kernel)) (fun _ h9 => h9) rfl dX3_startAnew_53 ?_
          refine lv_iload_n hx hb dX3_startAnew_56 rfl (lv_at hl 3 rfl) ?_
          refine lv_aload_n hx hb dX3_startAnew_57 rfl (lv_at hl 1 rfl) ?_
          refine x_get (C := RX3) (T := TX3) (N := 10) (ci := 3) (a := 5) (k := k0) (v := .ref (ad (8, k0))) hx hb hts iw_X3_startAnew_X3 hown hK hP (in6 hC (a := 5) (by decide) hk0) rfl rfl 3 (by decide) (hts (.fieldLink RX3 22 "PageOwners$Node" "owns" "[Z") (by decide +kernel)) (fun _ h9 => h9) rfl dX3_startAnew_58 ?_
          refine lv_iload_n hx hb dX3_startAnew_61 rfl (lv_at hl 3 rfl) ?_
          have hin44 := h.1
          have h := h.2
          refine x_zald (a := 8) (k := k0) (n := 8) hx hb hK hP (in6 hC (a := 8) (by decide) hk0) (fun _ => rfl) hin44 dX3_startAnew_62 ?_
          refine lv_if_eq (tgt := 70) hx hb dX3_startAnew_63 (by decide) (fun c45 => ?_) (fun c45 => ?_)
          · have h := h.1 c45
            refine lv_iconst (v := 0) hx hb dX3_startAnew_70 (by decide) ?_
            have hin48 := h.1
            have h := h.2
            refine x_iast (a := 7) (k := k0) (n := 8) hx hb hK hP hAd hS (in6 hC (a := 7) (by decide) hk0) (fun _ => rfl) hin48 dX3_startAnew_71 (fun H locs hP hS => ?_)
            obtain ⟨σ46, e47⟩ : ∃ z, z = sI σ41 7 k0 (ix y2) 0 := ⟨_, rfl⟩
            rw [← e47] at hP
            have h := h σ46 e47
            refine lv_aload_n hx hb dX3_startAnew_72 rfl (lv_at hl 1 rfl) ?_
            refine x_get (C := RX3) (T := TX3) (N := 10) (ci := 3) (a := 5) (k := k0) (v := .ref (ad (9, k0))) hx hb hts iw_X3_startAnew_X3 hown hK hP (in6 hC (a := 5) (by decide) hk0) rfl rfl 4 (by decide) (hts (.fieldLink RX3 26 "PageOwners$Node" "guessOf" "[I") (by decide +kernel)) (fun _ h9 => h9) rfl dX3_startAnew_73 ?_
            refine lv_iload_n hx hb dX3_startAnew_76 rfl (lv_at hl 3 rfl) ?_
            refine lv_iload_n hx hb dX3_startAnew_77 rfl (lv_at hl 0 rfl) ?_
            have hin51 := h.1
            have h := h.2
            refine x_iast (a := 9) (k := k0) (n := 8) hx hb hK hP hAd hS (in6 hC (a := 9) (by decide) hk0) (fun _ => rfl) hin51 dX3_startAnew_78 (fun H locs hP hS => ?_)
            obtain ⟨σ49, e50⟩ : ∃ z, z = sI σ46 9 k0 (ix y2) r9 := ⟨_, rfl⟩
            rw [← e50] at hP
            have h := h σ49 e50
            refine lv_aload_n hx hb dX3_startAnew_79 rfl (lv_at hl 1 rfl) ?_
            refine x_get (C := RX3) (T := TX3) (N := 10) (ci := 3) (a := 5) (k := k0) (v := .ref (ad (10, k0))) hx hb hts iw_X3_startAnew_X3 hown hK hP (in6 hC (a := 5) (by decide) hk0) rfl rfl 5 (by decide) (hts (.fieldLink RX3 29 "PageOwners$Node" "copySet" "[I") (by decide +kernel)) (fun _ h9 => h9) rfl dX3_startAnew_80 ?_
            refine lv_iload_n hx hb dX3_startAnew_83 rfl (lv_at hl 3 rfl) ?_
            refine lv_iconst (v := 0) hx hb dX3_startAnew_84 (by decide) ?_
            have hin54 := h.1
            have h := h.2
            refine x_iast (a := 10) (k := k0) (n := 8) hx hb hK hP hAd hS (in6 hC (a := 10) (by decide) hk0) (fun _ => rfl) hin54 dX3_startAnew_85 (fun H locs hP hS => ?_)
            obtain ⟨σ52, e53⟩ : ∃ z, z = sI σ49 10 k0 (ix y2) 0 := ⟨_, rfl⟩
            rw [← e53] at hP
            have h := h σ52 e53
            refine lv_aload_n hx hb dX3_startAnew_86 rfl (lv_at hl 1 rfl) ?_
            refine x_get (C := RX3) (T := TX3) (N := 10) (ci := 3) (a := 5) (k := k0) (v := .ref (ad (12, k0))) hx hb hts iw_X3_startAnew_X3 hown hK hP (in6 hC (a := 5) (by decide) hk0) rfl rfl 7 (by decide) (hts (.fieldLink RX3 36 "PageOwners$Node" "queued" "[I") (by decide +kernel)) (fun _ h9 => h9) rfl dX3_startAnew_87 ?_
            refine lv_iload_n hx hb dX3_startAnew_90 rfl (lv_at hl 3 rfl) ?_
            refine lv_iconst (v := 0) hx hb dX3_startAnew_91 (by decide) ?_
            have hin57 := h.1
            have h := h.2
            refine x_iast (a := 12) (k := k0) (n := 8) hx hb hK hP hAd hS (in6 hC (a := 12) (by decide) hk0) (fun _ => rfl) hin57 dX3_startAnew_92 (fun H locs hP hS => ?_)
            obtain ⟨σ55, e56⟩ : ∃ z, z = sI σ52 12 k0 (ix y2) 0 := ⟨_, rfl⟩
            rw [← e56] at hP
            have h := h σ55 e56
            refine lv_iinc (v := (y2 + 1)) (lv' := [(2, .int (y2 + 1)), (3, .int r9), (0, .ref (ad (5, k0))), (1, .int x1)]) hx hb dX3_startAnew_93 hl (k := 3) rfl rfl (by decide) rfl (fun ls hl => ?_)
            refine lv_goto (tgt := 17) hx hb dX3_startAnew_96 (by decide) ?_
            exact ih σ55 (y2 + 1) _ _ _ h hP hS (lv_sub hl [2, 3, 0] rfl)
          · have h := h.2 c45
            refine lv_iconst (v := 2) hx hb dX3_startAnew_66 (by decide) ?_
            refine lv_goto (tgt := 71) hx hb dX3_startAnew_67 (by decide) ?_
            have hin60 := h.1
            have h := h.2
            refine x_iast (a := 7) (k := k0) (n := 8) hx hb hK hP hAd hS (in6 hC (a := 7) (by decide) hk0) (fun _ => rfl) hin60 dX3_startAnew_71 (fun H locs hP hS => ?_)
            obtain ⟨σ58, e59⟩ : ∃ z, z = sI σ41 7 k0 (ix y2) 2 := ⟨_, rfl⟩
            rw [← e59] at hP
            have h := h σ58 e59
            refine lv_aload_n hx hb dX3_startAnew_72 rfl (lv_at hl 1 rfl) ?_
            refine x_get (C := RX3) (T := TX3) (N := 10) (ci := 3) (a := 5) (k := k0) (v := .ref (ad (9, k0))) hx hb hts iw_X3_startAnew_X3 hown hK hP (in6 hC (a := 5) (by decide) hk0) rfl rfl 4 (by decide) (hts (.fieldLink RX3 26 "PageOwners$Node" "guessOf" "[I") (by decide +kernel)) (fun _ h9 => h9) rfl dX3_startAnew_73 ?_
            refine lv_iload_n hx hb dX3_startAnew_76 rfl (lv_at hl 3 rfl) ?_
            refine lv_iload_n hx hb dX3_startAnew_77 rfl (lv_at hl 0 rfl) ?_
            have hin63 := h.1
            have h := h.2
            refine x_iast (a := 9) (k := k0) (n := 8) hx hb hK hP hAd hS (in6 hC (a := 9) (by decide) hk0) (fun _ => rfl) hin63 dX3_startAnew_78 (fun H locs hP hS => ?_)
            obtain ⟨σ61, e62⟩ : ∃ z, z = sI σ58 9 k0 (ix y2) r9 := ⟨_, rfl⟩
            rw [← e62] at hP
            have h := h σ61 e62
            refine lv_aload_n hx hb dX3_startAnew_79 rfl (lv_at hl 1 rfl) ?_
            refine x_get (C := RX3) (T := TX3) (N := 10) (ci := 3) (a := 5) (k := k0) (v := .ref (ad (10, k0))) hx hb hts iw_X3_startAnew_X3 hown hK hP (in6 hC (a := 5) (by decide) hk0) rfl rfl 5 (by decide) (hts (.fieldLink RX3 29 "PageOwners$Node" "copySet" "[I") (by decide +kernel)) (fun _ h9 => h9) rfl dX3_startAnew_80 ?_
            refine lv_iload_n hx hb dX3_startAnew_83 rfl (lv_at hl 3 rfl) ?_
            refine lv_iconst (v := 0) hx hb dX3_startAnew_84 (by decide) ?_
            have hin66 := h.1
            have h := h.2
            refine x_iast (a := 10) (k := k0) (n := 8) hx hb hK hP hAd hS (in6 hC (a := 10) (by decide) hk0) (fun _ => rfl) hin66 dX3_startAnew_85 (fun H locs hP hS => ?_)
            obtain ⟨σ64, e65⟩ : ∃ z, z = sI σ61 10 k0 (ix y2) 0 := ⟨_, rfl⟩
            rw [← e65] at hP
            have h := h σ64 e65
            refine lv_aload_n hx hb dX3_startAnew_86 rfl (lv_at hl 1 rfl) ?_
            refine x_get (C := RX3) (T := TX3) (N := 10) (ci := 3) (a := 5) (k := k0) (v := .ref (ad (12, k0))) hx hb hts iw_X3_startAnew_X3 hown hK hP (in6 hC (a := 5) (by decide) hk0) rfl rfl 7 (by decide) (hts (.fieldLink RX3 36 "PageOwners$Node" "queued" "[I") (by decide +kernel)) (fun _ h9 => h9) rfl dX3_startAnew_87 ?_
            refine lv_iload_n hx hb dX3_startAnew_90 rfl (lv_at hl 3 rfl) ?_
            refine lv_iconst (v := 0) hx hb dX3_startAnew_91 (by decide) ?_
            have hin69 := h.1
            have h := h.2
            refine x_iast (a := 12) (k := k0) (n := 8) hx hb hK hP hAd hS (in6 hC (a := 12) (by decide) hk0) (fun _ => rfl) hin69 dX3_startAnew_92 (fun H locs hP hS => ?_)
            obtain ⟨σ67, e68⟩ : ∃ z, z = sI σ64 12 k0 (ix y2) 0 := ⟨_, rfl⟩
            rw [← e68] at hP
            have h := h σ67 e68
            refine lv_iinc (v := (y2 + 1)) (lv' := [(2, .int (y2 + 1)), (3, .int r9), (0, .ref (ad (5, k0))), (1, .int x1)]) hx hb dX3_startAnew_93 hl (k := 3) rfl rfl (by decide) rfl (fun ls hl => ?_)
            refine lv_goto (tgt := 17) hx hb dX3_startAnew_96 (by decide) ?_
            exact ih σ67 (y2 + 1) _ _ _ h hP hS (lv_sub hl [2, 3, 0] rfl)
        · have h := h.1 c11
          refine lv_iconst (v := 1) hx hb dX3_startAnew_46 (by decide) ?_
          refine lv_goto (tgt := 51) hx hb dX3_startAnew_47 (by decide) ?_
          have hin14 := h.1
          have h := h.2
          refine x_zast (a := 8) (k := k0) (n := 8) hx hb hK hP hAd hS (in6 hC (a := 8) (by decide) hk0) (fun _ => rfl) hin14 (by decide) dX3_startAnew_51 (fun H locs hP hS => ?_)
          obtain ⟨σ12, e13⟩ : ∃ z, z = sI σ8 8 k0 (ix y2) 1 := ⟨_, rfl⟩
          rw [← e13] at hP
          have h := h σ12 e13
          refine lv_aload_n hx hb dX3_startAnew_52 rfl (lv_at hl 1 rfl) ?_
          refine x_get (C := RX3) (T := TX3) (N := 10) (ci := 3) (a := 5) (k := k0) (v := .ref (ad (7, k0))) hx hb hts iw_X3_startAnew_X3 hown hK hP (in6 hC (a := 5) (by decide) hk0) rfl rfl 2 (by decide) (hts (.fieldLink RX3 18 "PageOwners$Node" "accessTo" "[I") (by decide +kernel)) (fun _ h9 => h9) rfl dX3_startAnew_53 ?_
          refine lv_iload_n hx hb dX3_startAnew_56 rfl (lv_at hl 3 rfl) ?_
          refine lv_aload_n hx hb dX3_startAnew_57 rfl (lv_at hl 1 rfl) ?_
          refine x_get (C := RX3) (T := TX3) (N := 10) (ci := 3) (a := 5) (k := k0) (v := .ref (ad (8, k0))) hx hb hts iw_X3_startAnew_X3 hown hK hP (in6 hC (a := 5) (by decide) hk0) rfl rfl 3 (by decide) (hts (.fieldLink RX3 22 "PageOwners$Node" "owns" "[Z") (by decide +kernel)) (fun _ h9 => h9) rfl dX3_startAnew_58 ?_
          refine lv_iload_n hx hb dX3_startAnew_61 rfl (lv_at hl 3 rfl) ?_
          have hin15 := h.1
          have h := h.2
          refine x_zald (a := 8) (k := k0) (n := 8) hx hb hK hP (in6 hC (a := 8) (by decide) hk0) (fun _ => rfl) hin15 dX3_startAnew_62 ?_
          refine lv_if_eq (tgt := 70) hx hb dX3_startAnew_63 (by decide) (fun c16 => ?_) (fun c16 => ?_)
          · have h := h.1 c16
            refine lv_iconst (v := 0) hx hb dX3_startAnew_70 (by decide) ?_
            have hin19 := h.1
            have h := h.2
            refine x_iast (a := 7) (k := k0) (n := 8) hx hb hK hP hAd hS (in6 hC (a := 7) (by decide) hk0) (fun _ => rfl) hin19 dX3_startAnew_71 (fun H locs hP hS => ?_)
            obtain ⟨σ17, e18⟩ : ∃ z, z = sI σ12 7 k0 (ix y2) 0 := ⟨_, rfl⟩
            rw [← e18] at hP
            have h := h σ17 e18
            refine lv_aload_n hx hb dX3_startAnew_72 rfl (lv_at hl 1 rfl) ?_
            refine x_get (C := RX3) (T := TX3) (N := 10) (ci := 3) (a := 5) (k := k0) (v := .ref (ad (9, k0))) hx hb hts iw_X3_startAnew_X3 hown hK hP (in6 hC (a := 5) (by decide) hk0) rfl rfl 4 (by decide) (hts (.fieldLink RX3 26 "PageOwners$Node" "guessOf" "[I") (by decide +kernel)) (fun _ h9 => h9) rfl dX3_startAnew_73 ?_
            refine lv_iload_n hx hb dX3_startAnew_76 rfl (lv_at hl 3 rfl) ?_
            refine lv_iload_n hx hb dX3_startAnew_77 rfl (lv_at hl 0 rfl) ?_
            have hin22 := h.1
            have h := h.2
            refine x_iast (a := 9) (k := k0) (n := 8) hx hb hK hP hAd hS (in6 hC (a := 9) (by decide) hk0) (fun _ => rfl) hin22 dX3_startAnew_78 (fun H locs hP hS => ?_)
            obtain ⟨σ20, e21⟩ : ∃ z, z = sI σ17 9 k0 (ix y2) r9 := ⟨_, rfl⟩
            rw [← e21] at hP
            have h := h σ20 e21
            refine lv_aload_n hx hb dX3_startAnew_79 rfl (lv_at hl 1 rfl) ?_
            refine x_get (C := RX3) (T := TX3) (N := 10) (ci := 3) (a := 5) (k := k0) (v := .ref (ad (10, k0))) hx hb hts iw_X3_startAnew_X3 hown hK hP (in6 hC (a := 5) (by decide) hk0) rfl rfl 5 (by decide) (hts (.fieldLink RX3 29 "PageOwners$Node" "copySet" "[I") (by decide +kernel)) (fun _ h9 => h9) rfl dX3_startAnew_80 ?_
            refine lv_iload_n hx hb dX3_startAnew_83 rfl (lv_at hl 3 rfl) ?_
            refine lv_iconst (v := 0) hx hb dX3_startAnew_84 (by decide) ?_
            have hin25 := h.1
            have h := h.2
            refine x_iast (a := 10) (k := k0) (n := 8) hx hb hK hP hAd hS (in6 hC (a := 10) (by decide) hk0) (fun _ => rfl) hin25 dX3_startAnew_85 (fun H locs hP hS => ?_)
            obtain ⟨σ23, e24⟩ : ∃ z, z = sI σ20 10 k0 (ix y2) 0 := ⟨_, rfl⟩
            rw [← e24] at hP
            have h := h σ23 e24
            refine lv_aload_n hx hb dX3_startAnew_86 rfl (lv_at hl 1 rfl) ?_
            refine x_get (C := RX3) (T := TX3) (N := 10) (ci := 3) (a := 5) (k := k0) (v := .ref (ad (12, k0))) hx hb hts iw_X3_startAnew_X3 hown hK hP (in6 hC (a := 5) (by decide) hk0) rfl rfl 7 (by decide) (hts (.fieldLink RX3 36 "PageOwners$Node" "queued" "[I") (by decide +kernel)) (fun _ h9 => h9) rfl dX3_startAnew_87 ?_
            refine lv_iload_n hx hb dX3_startAnew_90 rfl (lv_at hl 3 rfl) ?_
            refine lv_iconst (v := 0) hx hb dX3_startAnew_91 (by decide) ?_
            have hin28 := h.1
            have h := h.2
            refine x_iast (a := 12) (k := k0) (n := 8) hx hb hK hP hAd hS (in6 hC (a := 12) (by decide) hk0) (fun _ => rfl) hin28 dX3_startAnew_92 (fun H locs hP hS => ?_)
            obtain ⟨σ26, e27⟩ : ∃ z, z = sI σ23 12 k0 (ix y2) 0 := ⟨_, rfl⟩
            rw [← e27] at hP
            have h := h σ26 e27
            refine lv_iinc (v := (y2 + 1)) (lv' := [(2, .int (y2 + 1)), (3, .int r9), (0, .ref (ad (5, k0))), (1, .int x1)]) hx hb dX3_startAnew_93 hl (k := 3) rfl rfl (by decide) rfl (fun ls hl => ?_)
            refine lv_goto (tgt := 17) hx hb dX3_startAnew_96 (by decide) ?_
            exact ih σ26 (y2 + 1) _ _ _ h hP hS (lv_sub hl [2, 3, 0] rfl)
          · have h := h.2 c16
            refine lv_iconst (v := 2) hx hb dX3_startAnew_66 (by decide) ?_
            refine lv_goto (tgt := 71) hx hb dX3_startAnew_67 (by decide) ?_
            have hin31 := h.1
            have h := h.2
            refine x_iast (a := 7) (k := k0) (n := 8) hx hb hK hP hAd hS (in6 hC (a := 7) (by decide) hk0) (fun _ => rfl) hin31 dX3_startAnew_71 (fun H locs hP hS => ?_)
            obtain ⟨σ29, e30⟩ : ∃ z, z = sI σ12 7 k0 (ix y2) 2 := ⟨_, rfl⟩
            rw [← e30] at hP
            have h := h σ29 e30
            refine lv_aload_n hx hb dX3_startAnew_72 rfl (lv_at hl 1 rfl) ?_
            refine x_get (C := RX3) (T := TX3) (N := 10) (ci := 3) (a := 5) (k := k0) (v := .ref (ad (9, k0))) hx hb hts iw_X3_startAnew_X3 hown hK hP (in6 hC (a := 5) (by decide) hk0) rfl rfl 4 (by decide) (hts (.fieldLink RX3 26 "PageOwners$Node" "guessOf" "[I") (by decide +kernel)) (fun _ h9 => h9) rfl dX3_startAnew_73 ?_
            refine lv_iload_n hx hb dX3_startAnew_76 rfl (lv_at hl 3 rfl) ?_
            refine lv_iload_n hx hb dX3_startAnew_77 rfl (lv_at hl 0 rfl) ?_
            have hin34 := h.1
            have h := h.2
            refine x_iast (a := 9) (k := k0) (n := 8) hx hb hK hP hAd hS (in6 hC (a := 9) (by decide) hk0) (fun _ => rfl) hin34 dX3_startAnew_78 (fun H locs hP hS => ?_)
            obtain ⟨σ32, e33⟩ : ∃ z, z = sI σ29 9 k0 (ix y2) r9 := ⟨_, rfl⟩
            rw [← e33] at hP
            have h := h σ32 e33
            refine lv_aload_n hx hb dX3_startAnew_79 rfl (lv_at hl 1 rfl) ?_
            refine x_get (C := RX3) (T := TX3) (N := 10) (ci := 3) (a := 5) (k := k0) (v := .ref (ad (10, k0))) hx hb hts iw_X3_startAnew_X3 hown hK hP (in6 hC (a := 5) (by decide) hk0) rfl rfl 5 (by decide) (hts (.fieldLink RX3 29 "PageOwners$Node" "copySet" "[I") (by decide +kernel)) (fun _ h9 => h9) rfl dX3_startAnew_80 ?_
            refine lv_iload_n hx hb dX3_startAnew_83 rfl (lv_at hl 3 rfl) ?_
            refine lv_iconst (v := 0) hx hb dX3_startAnew_84 (by decide) ?_
            have hin37 := h.1
            have h := h.2
            refine x_iast (a := 10) (k := k0) (n := 8) hx hb hK hP hAd hS (in6 hC (a := 10) (by decide) hk0) (fun _ => rfl) hin37 dX3_startAnew_85 (fun H locs hP hS => ?_)
            obtain ⟨σ35, e36⟩ : ∃ z, z = sI σ32 10 k0 (ix y2) 0 := ⟨_, rfl⟩
            rw [← e36] at hP
            have h := h σ35 e36
            refine lv_aload_n hx hb dX3_startAnew_86 rfl (lv_at hl 1 rfl) ?_
            refine x_get (C := RX3) (T := TX3) (N := 10) (ci := 3) (a := 5) (k := k0) (v := .ref (ad (12, k0))) hx hb hts iw_X3_startAnew_X3 hown hK hP (in6 hC (a := 5) (by decide) hk0) rfl rfl 7 (by decide) (hts (.fieldLink RX3 36 "PageOwners$Node" "queued" "[I") (by decide +kernel)) (fun _ h9 => h9) rfl dX3_startAnew_87 ?_
            refine lv_iload_n hx hb dX3_startAnew_90 rfl (lv_at hl 3 rfl) ?_
            refine lv_iconst (v := 0) hx hb dX3_startAnew_91 (by decide) ?_
            have hin40 := h.1
            have h := h.2
            refine x_iast (a := 12) (k := k0) (n := 8) hx hb hK hP hAd hS (in6 hC (a := 12) (by decide) hk0) (fun _ => rfl) hin40 dX3_startAnew_92 (fun H locs hP hS => ?_)
            obtain ⟨σ38, e39⟩ : ∃ z, z = sI σ35 12 k0 (ix y2) 0 := ⟨_, rfl⟩
            rw [← e39] at hP
            have h := h σ38 e39
            refine lv_iinc (v := (y2 + 1)) (lv' := [(2, .int (y2 + 1)), (3, .int r9), (0, .ref (ad (5, k0))), (1, .int x1)]) hx hb dX3_startAnew_93 hl (k := 3) rfl rfl (by decide) rfl (fun ls hl => ?_)
            refine lv_goto (tgt := 17) hx hb dX3_startAnew_96 (by decide) ?_
            exact ih σ38 (y2 + 1) _ _ _ h hP hS (lv_sub hl [2, 3, 0] rfl)
  unfold wp_X3_startAnew at h
  refine lv_aload_n hx hb dX3_startAnew_0 rfl (lv_at hl 0 rfl) ?_
  refine x_get (C := RX3) (T := TX3) (N := 10) (ci := 3) (a := 5) (k := k0) (v := .ref (ad (6, k0))) hx hb hts iw_X3_startAnew_X3 hown hK hP (in6 hC (a := 5) (by decide) hk0) rfl rfl 1 (by decide) (hts (.fieldLink RX3 12 "PageOwners$Node" "hand" "LPageOwners$Hand;") (by decide +kernel)) (fun _ h9 => h9) rfl dX3_startAnew_1 ?_
  refine x_cVv (C := RX0) (As := []) (rest := []) ⟨hx, hb, hml, hown, hts⟩ hK hP hS (c_X0_startAnew l hAd hC σ k0 hk0 _ h) (cwV 0 hts gX3_startAnew_X0_startAnew rfl rfl rfl (by decide +kernel) ⟨Nat.le_of_ble_eq_true rfl, Nat.le_of_ble_eq_true rfl⟩) (x_recv hK hP (in6 hC (a := 6) (by decide) hk0) rfl rfl) rfl hl.1 rfl (Nat.le_of_ble_eq_true rfl) dX3_startAnew_4 ⟨Nat.zero_le _, Nat.zero_le _⟩ (fun σ1 H locs h hP hS => ?_)
  refine lv_aload_n hx hb dX3_startAnew_7 rfl (lv_at hl 0 rfl) ?_
  refine x_get (C := RX3) (T := TX3) (N := 10) (ci := 3) (a := 5) (k := k0) (v := .ref (ad (11, k0))) hx hb hts iw_X3_startAnew_X3 hown hK hP (in6 hC (a := 5) (by decide) hk0) rfl rfl 6 (by decide) (hts (.fieldLink RX3 32 "PageOwners$Node" "words" "[J") (by decide +kernel)) (fun _ h9 => h9) rfl dX3_startAnew_8 ?_
  refine lv_lconst (v := 0) hx hb dX3_startAnew_11 (by decide) ?_
  refine x_cSv (As := [.ref (ad (11, k0)), .long 0]) (rest := []) ⟨hx, hb, hml, hown, hts⟩ hK hP hS (c_J7_fill_d0a16 l hAd hC σ1 k0 hk0 0 _ h) (va_cwS 2 hts gX3_startAnew_J7_fill_d0a16 rfl rfl rfl (by decide +kernel) ⟨Nat.le_of_ble_eq_true rfl, Nat.le_of_ble_eq_true rfl⟩) rfl hl.1 rfl (Nat.le_of_ble_eq_true rfl) dX3_startAnew_12 ⟨Nat.zero_le _, Nat.zero_le _⟩ (fun σ4 H locs h hP hS => ?_)
  refine lv_iconst (v := 0) hx hb dX3_startAnew_15 (by decide) ?_
  refine lv_istore_n (lv' := [(2, .int 0), (0, .ref (ad (5, k0))), (1, .int x1)]) hx hb dX3_startAnew_16 rfl hl (by decide) rfl (fun ls hl => ?_)
  obtain ⟨n70, h⟩ := h
  exact L17 n70 σ4 0 _ _ _ h hP hS (lv_sub hl [1, 2, 0] rfl)
