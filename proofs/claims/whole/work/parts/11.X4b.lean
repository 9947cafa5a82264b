theorem iw_X4_startAnew_X2 : ∀ w ∈ wsX20, w ∈ wsX4_startAnew := fun _ h => List.mem_cons_of_mem _ (List.mem_append_left _ (List.mem_append_left _ (List.mem_append_right _ h)))
theorem iw_X4_startAnew_X4 : ∀ w ∈ wsX40, w ∈ wsX4_startAnew := fun _ h => List.mem_cons_of_mem _ (List.mem_append_left _ (List.mem_append_left _ (List.mem_append_left _ (List.mem_append_right _ h))))
def lp_X4_startAnew_7 (x1 : Int32) (Q : Sg → Prop) : Nat → Sg → Int32 → Prop
  | 0, _, _ => False
  | n + 1, σ, y2 => ((6 ≤ y2 → (∀ σ4, σ4 = sI σ 3 0 1 0 → (wp_J7_fill_53178 σ4 0 (fun σ6 => (∀ σ9, σ9 = sI σ6 2 0 (ix 0) x1 → Q σ9))))) ∧ (¬ (6 ≤ y2) → (vp_in y2 6 ∧ (wp_X3_startAnew σ (ix y2) x1 (fun σ12 => lp_X4_startAnew_7 x1 Q n σ12 (y2 + 1))))))
def wp_X4_startAnew (σ : Sg) (x1 : Int32) (Q : Sg → Prop) : Prop := (∀ σ1, σ1 = sI σ 0 0 3 x1 → (∃ n15, lp_X4_startAnew_7 x1 Q n15 σ1 0))
abbrev rm_X4_startAnew : Room := { frames := 3, cells := 0, slots := 0, locals := 68 }
set_option maxHeartbeats 4000000 in
set_option maxRecDepth 100000 in
theorem c_X4_startAnew (l : Launch) {D : va_G} {P : List (Nat × Nat)} {ad : Nat × Nat → Nat} {cy : Nat → ClassId} (hAd : AdOk P ad) (hC : InC P) (σ : Sg) (x1 : Int32) (Q : Sg → Prop) (h : wp_X4_startAnew σ x1 Q) : Met l yX4_startAnew wsX4_startAnew rm_X4_startAnew (xPc D P ad cy σ [.ref (ad (0, 0)), .int x1]) (va_Qv Q (xB D P ad cy) (Aof P ad)) 0 0 (Aof P ad) := by
  refine Met.ofW (cc := cX4_startAnew) (maxL := 3) (ret := none) (by decide +kernel) rfl ?_
  intro p e s m args below meth c s₁ B hml hv
  obtain ⟨rfl, hP, hK⟩ := hv
  have hx := B.exec
  have hb := B.bytes
  have hr := B.returns
  have hts := atoms_spec (ws := wsX4_startAnew) B.pre
  have hown : s.vm.findClass RX4 = some m.cls := findClass_of_methodNamed B.named
  have hlocks := B.notSynchronized
  have hS : va_S (Aof P ad) s.heap s.heap [] := va_S.rf
  have hl := lv_entry ([.ref (ad (0, 0)), .int x1] : List Value) (n := 3) (Nat.le_of_ble_eq_true rfl)
  rw [lg_entry_eq]
  generalize (lg_sl ([.ref (ad (0, 0)), .int x1] : List Value) ++ List.replicate (3 - (lg_sl ([.ref (ad (0, 0)), .int x1] : List Value)).length) Slot.unset).toArray = ls at hl ⊢
  have hl : lv_has ls 3 [(0, .ref (ad (0, 0))), (1, .int x1)] := hl
  have L7 : ∀ (n : Nat) (σ : Sg) (y2 : Int32) (H : Heap) (locs : List Loc) (ls : Array Slot), lp_X4_startAnew_7 x1 Q n σ y2 → Wo D P ad cy σ H → va_S (Aof P ad) s.heap H locs → lv_has ls 3 [(0, .ref (ad (0, 0))), (1, .int x1), (2, .int y2)] → W p l e (headSpec wsX4_startAnew rm_X4_startAnew).room s m ([.ref (ad (0, 0)), .int x1] : List Value).toArray below meth c H locs 0 0 (MQ below (va_Qv Q (xB D P ad cy) (Aof P ad)) ([.ref (ad (0, 0)), .int x1] : List Value).toArray s 0 0 (Aof P ad)) (F0 m 7 ls []) := by
    intro n
    induction n with
    | zero =>
      intro σ y2 H locs ls h
      exact h.elim
    | succ n ih =>
      intro σ y2 H locs ls h hP hS hl
      rw [lp_X4_startAnew_7] at h
      refine lv_iload_n hx hb dX4_startAnew_7 rfl (lv_at hl 2 rfl) ?_
      refine lv_bipush (v := 6) hx hb dX4_startAnew_8 (by decide) ?_
      refine lv_icmp_ge (tgt := 29) hx hb dX4_startAnew_10 (by decide) (fun c3 => ?_) (fun c3 => ?_)
      · have h := h.1 c3
        refine lv_aload_n hx hb dX4_startAnew_29 rfl (lv_at hl 0 rfl) ?_
        refine x_get (C := RX4) (T := TX4) (N := 4) (ci := 4) (a := 0) (k := 0) (v := .ref (ad (3, 0))) hx hb hts iw_X4_startAnew_X4 hown hK hP (in1 hC (a := 0) (by decide) (by decide)) rfl rfl 1 (by decide) (hts (.fieldLink RX4 18 "PageOwners" "mail" "LPageOwners$Mail;") (by decide +kernel)) (fun _ h9 => h9) rfl dX4_startAnew_30 ?_
        refine lv_iconst (v := 0) hx hb dX4_startAnew_33 (by decide) ?_
        refine x_puti (C := RX2) (T := TX2) (N := 2) (ci := 2) (a := 3) (k := 0) (v := 0) (ty := .int) hx hb hts iw_X4_startAnew_X2 tyX2 tyX2_ok nmX2 hown hK hP hAd hS (in1 hC (a := 3) (by decide) (by decide)) rfl rfl 1 (by decide) (hts (.fieldLink RX4 164 "PageOwners$Mail" "flying" "I") (by decide +kernel)) (fun _ h9 => h9) rfl (by decide +kernel) rfl rfl (Nat.le_of_ble_eq_true rfl) rfl dX4_startAnew_34 (fun H locs hP hS => ?_)
        obtain ⟨σ4, e5⟩ : ∃ z, z = sI σ 3 0 1 0 := ⟨_, rfl⟩
        rw [← e5] at hP
        have h := h σ4 e5
        refine lv_aload_n hx hb dX4_startAnew_37 rfl (lv_at hl 0 rfl) ?_
        refine x_get (C := RX4) (T := TX4) (N := 4) (ci := 4) (a := 0) (k := 0) (v := .ref (ad (2, 0))) hx hb hts iw_X4_startAnew_X4 hown hK hP (in1 hC (a := 0) (by decide) (by decide)) rfl rfl 2 (by decide) (hts (.fieldLink RX4 22 "PageOwners" "counts" "[I") (by decide +kernel)) (fun _ h9 => h9) rfl dX4_startAnew_38 ?_
        refine lv_iconst (v := 0) hx hb dX4_startAnew_41 (by decide) ?_
        refine x_cSv (As := [.ref (ad (2, 0)), .int 0]) (rest := []) ⟨hx, hb, hml, hown, hts⟩ hK hP hS (c_J7_fill_53178 l hAd hC σ4 0 _ h) (va_cwS 2 hts gX4_startAnew_J7_fill_53178 rfl rfl rfl (by decide +kernel) ⟨Nat.le_of_ble_eq_true rfl, Nat.le_of_ble_eq_true rfl⟩) rfl hl.1 rfl (Nat.le_of_ble_eq_true rfl) dX4_startAnew_42 ⟨Nat.zero_le _, Nat.zero_le _⟩ (fun σ6 H locs h hP hS => ?_)
        refine lv_aload_n hx hb dX4_startAnew_45 rfl (lv_at hl 0 rfl) ?_
        refine x_get (C := RX4) (T := TX4) (N := 4) (ci := 4) (a := 0) (k := 0) (v := .ref (ad (2, 0))) hx hb hts iw_X4_startAnew_X4 hown hK hP (in1 hC (a := 0) (by decide) (by decide)) rfl rfl 2 (by decide) (hts (.fieldLink RX4 22 "PageOwners" "counts" "[I") (by decide +kernel)) (fun _ h9 => h9) rfl dX4_startAnew_46 ?_
        refine lv_iconst (v := 0) hx hb dX4_startAnew_49 (by decide) ?_
        refine lv_iload_n hx hb dX4_startAnew_50 rfl (lv_at hl 1 rfl) ?_
        refine x_iast (a := 2) (k := 0) (n := 8) hx hb hK hP hAd hS (in1 hC (a := 2) (by decide) (by decide)) (fun _ => rfl) (by unfold vp_in; decide) dX4_startAnew_51 (fun H locs hP hS => ?_)
        obtain ⟨σ9, e10⟩ : ∃ z, z = sI σ6 2 0 (ix 0) x1 := ⟨_, rfl⟩
        rw [← e10] at hP
        have h := h σ9 e10
        exact W.vret hx hb hr (fun t ht hW => ⟨⟨σ9, rfl, h, by rw [ht]; exact hP, va_K.moved hW.alike hK⟩, hS.F ht⟩) hS.2.2 dX4_startAnew_52
      · have h := h.2 c3
        refine lv_aload_n hx hb dX4_startAnew_13 rfl (lv_at hl 0 rfl) ?_
        refine x_get (C := RX4) (T := TX4) (N := 4) (ci := 4) (a := 0) (k := 0) (v := .ref (ad (1, 0))) hx hb hts iw_X4_startAnew_X4 hown hK hP (in1 hC (a := 0) (by decide) (by decide)) rfl rfl 0 (by decide) (hts (.fieldLink RX4 11 "PageOwners" "all" "[LPageOwners$Node;") (by decide +kernel)) (fun _ h9 => h9) rfl dX4_startAnew_14 ?_
        refine lv_iload_n hx hb dX4_startAnew_17 rfl (lv_at hl 2 rfl) ?_
        have hin11 := h.1
        have h := h.2
        refine x_aldN hC hx hb hK hP hin11 dX4_startAnew_18 ?_
        refine lv_iload_n hx hb dX4_startAnew_19 rfl (lv_at hl 1 rfl) ?_
        refine x_cVv (C := RX3) (As := [.int x1]) (rest := []) ⟨hx, hb, hml, hown, hts⟩ hK hP hS (c_X3_startAnew l hAd hC σ (ix y2) (ix_lt hin11) x1 _ h) (cwV 1 hts gX4_startAnew_X3_startAnew rfl rfl rfl (by decide +kernel) ⟨Nat.le_of_ble_eq_true rfl, Nat.le_of_ble_eq_true rfl⟩) (x_recv hK hP (in6 hC (a := 5) (by decide) (ix_lt hin11)) rfl rfl) rfl hl.1 rfl (Nat.le_of_ble_eq_true rfl) dX4_startAnew_20 ⟨Nat.zero_le _, Nat.zero_le _⟩ (fun σ12 H locs h hP hS => ?_)
        refine lv_iinc (v := (y2 + 1)) (lv' := [(2, .int (y2 + 1)), (0, .ref (ad (0, 0))), (1, .int x1)]) hx hb dX4_startAnew_23 hl (k := 2) rfl rfl (by decide) rfl (fun ls hl => ?_)
        refine lv_goto (tgt := 7) hx hb dX4_startAnew_26 (by decide) ?_
        exact ih σ12 (y2 + 1) _ _ _ h hP hS (lv_sub hl [1, 2, 0] rfl)
  unfold wp_X4_startAnew at h
  refine lv_aload_n hx hb dX4_startAnew_0 rfl (lv_at hl 0 rfl) ?_
  refine lv_iload_n hx hb dX4_startAnew_1 rfl (lv_at hl 1 rfl) ?_
  refine x_puti (C := RX4) (T := TX4) (N := 4) (ci := 4) (a := 0) (k := 0) (v := x1) (ty := .int) hx hb hts iw_X4_startAnew_X4 tyX4 tyX4_ok nmX4 hown hK hP hAd hS (in1 hC (a := 0) (by decide) (by decide)) rfl rfl 3 (by decide) (hts (.fieldLink RX4 141 "PageOwners" "nodes" "I") (by decide +kernel)) (fun _ h9 => h9) rfl (by decide +kernel) rfl rfl (Nat.le_of_ble_eq_true rfl) rfl dX4_startAnew_2 (fun H locs hP hS => ?_)
  obtain ⟨σ1, e2⟩ : ∃ z, z = sI σ 0 0 3 x1 := ⟨_, rfl⟩
  rw [← e2] at hP
  have h := h σ1 e2
  refine lv_iconst (v := 0) hx hb dX4_startAnew_5 (by decide) ?_
  refine lv_istore_n (lv' := [(2, .int 0), (0, .ref (ad (0, 0))), (1, .int x1)]) hx hb dX4_startAnew_6 rfl hl (by decide) rfl (fun ls hl => ?_)
  obtain ⟨n15, h⟩ := h
  exact L7 n15 σ1 0 _ _ _ h hP hS (lv_sub hl [1, 2, 0] rfl)
def wp_X4_begin (σ : Sg) (x1 : Int32) (Q : Sg → Int32 → Prop) : Prop := ((x1 < 2 → (Q σ 0)) ∧ (¬ (x1 < 2) → ((x1 ≤ 6 → (wp_X4_startAnew σ x1 (fun σ3 => (Q σ3 1)))) ∧ (¬ (x1 ≤ 6) → (Q σ 0)))))
abbrev rm_X4_begin : Room := { frames := 4, cells := 0, slots := 0, locals := 90 }
set_option maxHeartbeats 4000000 in
set_option maxRecDepth 100000 in
theorem c_X4_begin (l : Launch) {D : va_G} {P : List (Nat × Nat)} {ad : Nat × Nat → Nat} {cy : Nat → ClassId} (hAd : AdOk P ad) (hC : InC P) (σ : Sg) (x1 : Int32) (Q : Sg → Int32 → Prop) (h : wp_X4_begin σ x1 Q) : Met l yX4_begin wsX4_begin rm_X4_begin (xPc D P ad cy σ [.ref (ad (0, 0)), .int x1]) (va_Qi (fun r σ' => Q σ' r) (xB D P ad cy) (Aof P ad)) 0 0 (Aof P ad) := by
  refine Met.ofW (cc := cX4_begin) (maxL := 2) (ret := (some .boolean)) (by decide +kernel) rfl ?_
  intro p e s m args below meth c s₁ B hml hv
  obtain ⟨rfl, hP, hK⟩ := hv
  have hx := B.exec
  have hb := B.bytes
  have hr := B.returns
  have hts := atoms_spec (ws := wsX4_begin) B.pre
  have hown : s.vm.findClass RX4 = some m.cls := findClass_of_methodNamed B.named
  have hlocks := B.notSynchronized
  have hS : va_S (Aof P ad) s.heap s.heap [] := va_S.rf
  have hl := lv_entry ([.ref (ad (0, 0)), .int x1] : List Value) (n := 2) (Nat.le_of_ble_eq_true rfl)
  rw [lg_entry_eq]
  generalize (lg_sl ([.ref (ad (0, 0)), .int x1] : List Value) ++ List.replicate (2 - (lg_sl ([.ref (ad (0, 0)), .int x1] : List Value)).length) Slot.unset).toArray = ls at hl ⊢
  have hl : lv_has ls 2 [(0, .ref (ad (0, 0))), (1, .int x1)] := hl
  unfold wp_X4_begin at h
  refine lv_iload_n hx hb dX4_begin_0 rfl (lv_at hl 1 rfl) ?_
  refine lv_iconst (v := 2) hx hb dX4_begin_1 (by decide) ?_
  refine lv_icmp_lt (tgt := 11) hx hb dX4_begin_2 (by decide) (fun c1 => ?_) (fun c1 => ?_)
  · have h := h.1 c1
    refine lv_iconst (v := 0) hx hb dX4_begin_11 (by decide) ?_
    exact W.zret (v := 0) hx hb hr rfl (fun t ht hW => ⟨⟨0, σ, rfl, h, by rw [ht]; exact hP, va_K.moved hW.alike hK⟩, hS.F ht⟩) hS.2.2 dX4_begin_12
  · have h := h.2 c1
    refine lv_iload_n hx hb dX4_begin_5 rfl (lv_at hl 1 rfl) ?_
    refine lv_bipush (v := 6) hx hb dX4_begin_6 (by decide) ?_
    refine lv_icmp_le (tgt := 13) hx hb dX4_begin_8 (by decide) (fun c2 => ?_) (fun c2 => ?_)
    · have h := h.1 c2
      refine lv_aload_n hx hb dX4_begin_13 rfl (lv_at hl 0 rfl) ?_
      refine lv_iload_n hx hb dX4_begin_14 rfl (lv_at hl 1 rfl) ?_
      refine x_cVv (C := RX4) (As := [.int x1]) (rest := []) ⟨hx, hb, hml, hown, hts⟩ hK hP hS (c_X4_startAnew l hAd hC σ x1 _ h) (cwV 1 hts gX4_begin_X4_startAnew rfl rfl rfl (by decide +kernel) ⟨Nat.le_of_ble_eq_true rfl, Nat.le_of_ble_eq_true rfl⟩) (x_recv hK hP (in1 hC (a := 0) (by decide) (by decide)) rfl rfl) rfl hl.1 rfl (Nat.le_of_ble_eq_true rfl) dX4_begin_15 ⟨Nat.zero_le _, Nat.zero_le _⟩ (fun σ3 H locs h hP hS => ?_)
      refine lv_iconst (v := 1) hx hb dX4_begin_18 (by decide) ?_
      exact W.zret (v := 1) hx hb hr rfl (fun t ht hW => ⟨⟨1, σ3, rfl, h, by rw [ht]; exact hP, va_K.moved hW.alike hK⟩, hS.F ht⟩) hS.2.2 dX4_begin_19
    · have h := h.2 c2
      refine lv_iconst (v := 0) hx hb dX4_begin_11 (by decide) ?_
      exact W.zret (v := 0) hx hb hr rfl (fun t ht hW => ⟨⟨0, σ, rfl, h, by rw [ht]; exact hP, va_K.moved hW.alike hK⟩, hS.F ht⟩) hS.2.2 dX4_begin_12
theorem iw_X4_read_X3 : ∀ w ∈ wsX30, w ∈ wsX4_read := fun _ h => List.mem_cons_of_mem _ (List.mem_append_left _ (List.mem_append_left _ (List.mem_append_left _ (List.mem_append_right _ h))))
theorem iw_X4_read_X4 : ∀ w ∈ wsX40, w ∈ wsX4_read := fun _ h => List.mem_cons_of_mem _ (List.mem_append_left _ (List.mem_append_left _ (List.mem_append_left _ (List.mem_append_left _ (List.mem_append_right _ h)))))
def wp_X4_read (σ : Sg) (x1 : Int32) (x2 : Int32) (x3 : Int32) (Q : Sg → Int32 → Prop) : Prop := (wp_X4_mayStart σ x1 x2 x3 (fun σ1 r2 => ((r2 = 0 → Q σ1 (-1)) ∧ (¬ (r2 = 0) → (vp_in x1 6 ∧ (wp_X0_take σ1 (ix x1) x2 x3 0 0 (fun σ6 => (vp_in x2 8 ∧ (((σ6.1 7 (ix x1) (ix x2)) = 0 → (wp_X4_ask σ6 (ix x1) 1 1 (fun σ11 => (wp_X4_doneAtOnce σ11 (ix x1) (fun σ14 r15 => Q σ14 r15))))) ∧ (¬ ((σ6.1 7 (ix x1) (ix x2)) = 0) → (wp_X4_finish σ6 (ix x1) (fun σ17 => (wp_X4_doneAtOnce σ17 (ix x1) (fun σ20 r21 => Q σ20 r21))))))))))))))
abbrev rm_X4_read : Room := { frames := 4, cells := 0, slots := 0, locals := 87 }
set_option maxHeartbeats 4000000 in
set_option maxRecDepth 100000 in
theorem c_X4_read (l : Launch) {D : va_G} {P : List (Nat × Nat)} {ad : Nat × Nat → Nat} {cy : Nat → ClassId} (hAd : AdOk P ad) (hC : InC P) (σ : Sg) (x1 : Int32) (x2 : Int32) (x3 : Int32) (Q : Sg → Int32 → Prop) (h : wp_X4_read σ x1 x2 x3 Q) : Met l yX4_read wsX4_read rm_X4_read (xPc D P ad cy σ [.ref (ad (0, 0)), .int x1, .int x2, .int x3]) (va_Qi (fun r σ' => Q σ' r) (xB D P ad cy) (Aof P ad)) 0 0 (Aof P ad) := by
  refine Met.ofW (cc := cX4_read) (maxL := 5) (ret := (some .int)) (by decide +kernel) rfl ?_
  intro p e s m args below meth c s₁ B hml hv
  obtain ⟨rfl, hP, hK⟩ := hv
  have hx := B.exec
  have hb := B.bytes
  have hr := B.returns
  have hts := atoms_spec (ws := wsX4_read) B.pre
  have hown : s.vm.findClass RX4 = some m.cls := findClass_of_methodNamed B.named
  have hlocks := B.notSynchronized
  have hS : va_S (Aof P ad) s.heap s.heap [] := va_S.rf
  have hl := lv_entry ([.ref (ad (0, 0)), .int x1, .int x2, .int x3] : List Value) (n := 5) (Nat.le_of_ble_eq_true rfl)
  rw [lg_entry_eq]
  generalize (lg_sl ([.ref (ad (0, 0)), .int x1, .int x2, .int x3] : List Value) ++ List.replicate (5 - (lg_sl ([.ref (ad (0, 0)), .int x1, .int x2, .int x3] : List Value)).length) Slot.unset).toArray = ls at hl ⊢
  have hl : lv_has ls 5 [(0, .ref (ad (0, 0))), (1, .int x1), (2, .int x2), (3, .int x3)] := hl
  unfold wp_X4_read at h
  refine lv_aload_n hx hb dX4_read_0 rfl (lv_at hl 0 rfl) ?_
  refine lv_iload_n hx hb dX4_read_1 rfl (lv_at hl 1 rfl) ?_
  refine lv_iload_n hx hb dX4_read_2 rfl (lv_at hl 2 rfl) ?_
  refine lv_iload_n hx hb dX4_read_3 rfl (lv_at hl 3 rfl) ?_
  refine x_cVi (C := RX4) (As := [.int x1, .int x2, .int x3]) (rest := []) ⟨hx, hb, hml, hown, hts⟩ hK hP hS (c_X4_mayStart l hAd hC σ x1 x2 x3 _ h) (cwV 3 hts gX4_read_X4_mayStart rfl rfl rfl (by decide +kernel) ⟨Nat.le_of_ble_eq_true rfl, Nat.le_of_ble_eq_true rfl⟩) (x_recv hK hP (in1 hC (a := 0) (by decide) (by decide)) rfl rfl) rfl hl.1 rfl (Nat.le_of_ble_eq_true rfl) dX4_read_4 ⟨Nat.zero_le _, Nat.zero_le _⟩ (fun r2 σ1 H locs h hP hS => ?_)
  refine lv_if_ne (tgt := 12) hx hb dX4_read_7 (by decide) (fun c4 => ?_) (fun c4 => ?_)
  · have h := h.2 c4
    refine lv_aload_n hx hb dX4_read_12 rfl (lv_at hl 0 rfl) ?_
    refine x_get (C := RX4) (T := TX4) (N := 4) (ci := 4) (a := 0) (k := 0) (v := .ref (ad (1, 0))) hx hb hts iw_X4_read_X4 hown hK hP (in1 hC (a := 0) (by decide) (by decide)) rfl rfl 0 (by decide) (hts (.fieldLink RX4 11 "PageOwners" "all" "[LPageOwners$Node;") (by decide +kernel)) (fun _ h9 => h9) rfl dX4_read_13 ?_
    refine lv_iload_n hx hb dX4_read_16 rfl (lv_at hl 1 rfl) ?_
    have hin5 := h.1
    have h := h.2
    refine x_aldN hC hx hb hK hP hin5 dX4_read_17 ?_
    refine lv_astore (lv' := [(4, .ref (ad (5, (ix x1)))), (0, .ref (ad (0, 0))), (1, .int x1), (2, .int x2), (3, .int x3)]) hx hb dX4_read_18 hl (by decide) rfl (fun ls hl => ?_)
    refine lv_aload hx hb dX4_read_20 (lv_at hl 0 rfl) ?_
    refine x_get (C := RX3) (T := TX3) (N := 10) (ci := 3) (a := 5) (k := (ix x1)) (v := .ref (ad (6, (ix x1)))) hx hb hts iw_X4_read_X3 hown hK hP (in6 hC (a := 5) (by decide) (ix_lt hin5)) rfl rfl 1 (by decide) (hts (.fieldLink RX4 36 "PageOwners$Node" "hand" "LPageOwners$Hand;") (by decide +kernel)) (fun _ h9 => h9) rfl dX4_read_22 ?_
    refine lv_iload_n hx hb dX4_read_25 rfl (lv_at hl 3 rfl) ?_
    refine lv_iload_n hx hb dX4_read_26 rfl (lv_at hl 4 rfl) ?_
    refine lv_iconst (v := 0) hx hb dX4_read_27 (by decide) ?_
    refine lv_lconst (v := 0) hx hb dX4_read_28 (by decide) ?_
    refine x_cVv (C := RX0) (As := [.int x2, .int x3, .int 0, .long 0]) (rest := []) ⟨hx, hb, hml, hown, hts⟩ hK hP hS (c_X0_take l hAd hC σ1 (ix x1) (ix_lt hin5) x2 x3 0 0 _ h) (cwV 4 hts gX4_read_X0_take rfl rfl rfl (by decide +kernel) ⟨Nat.le_of_ble_eq_true rfl, Nat.le_of_ble_eq_true rfl⟩) (x_recv hK hP (in6 hC (a := 6) (by decide) (ix_lt hin5)) rfl rfl) rfl hl.1 rfl (Nat.le_of_ble_eq_true rfl) dX4_read_29 ⟨Nat.zero_le _, Nat.zero_le _⟩ (fun σ6 H locs h hP hS => ?_)
    refine lv_aload hx hb dX4_read_32 (lv_at hl 0 rfl) ?_
    refine x_get (C := RX3) (T := TX3) (N := 10) (ci := 3) (a := 5) (k := (ix x1)) (v := .ref (ad (7, (ix x1)))) hx hb hts iw_X4_read_X3 hown hK hP (in6 hC (a := 5) (by decide) (ix_lt hin5)) rfl rfl 2 (by decide) (hts (.fieldLink RX4 46 "PageOwners$Node" "accessTo" "[I") (by decide +kernel)) (fun _ h9 => h9) rfl dX4_read_34 ?_
    refine lv_iload_n hx hb dX4_read_37 rfl (lv_at hl 3 rfl) ?_
    have hin9 := h.1
    have h := h.2
    refine x_iald (a := 7) (k := (ix x1)) (n := 8) hx hb hK hP (in6 hC (a := 7) (by decide) (ix_lt hin5)) (fun _ => rfl) hin9 dX4_read_38 ?_
    refine lv_if_ne (tgt := 53) hx hb dX4_read_39 (by decide) (fun c10 => ?_) (fun c10 => ?_)
    · have h := h.2 c10
      refine lv_aload_n hx hb dX4_read_53 rfl (lv_at hl 1 rfl) ?_
      refine lv_aload hx hb dX4_read_54 (lv_at hl 0 rfl) ?_
      refine x_cVv (C := RX4) (As := [.ref (ad (5, (ix x1)))]) (rest := []) ⟨hx, hb, hml, hown, hts⟩ hK hP hS (c_X4_finish l hAd hC σ6 (ix x1) (ix_lt hin5) _ h) (cwV 1 hts gX4_read_X4_finish rfl rfl rfl (by decide +kernel) ⟨Nat.le_of_ble_eq_true rfl, Nat.le_of_ble_eq_true rfl⟩) (x_recv hK hP (in1 hC (a := 0) (by decide) (by decide)) rfl rfl) rfl hl.1 rfl (Nat.le_of_ble_eq_true rfl) dX4_read_56 ⟨Nat.zero_le _, Nat.zero_le _⟩ (fun σ17 H locs h hP hS => ?_)
      refine lv_aload_n hx hb dX4_read_59 rfl (lv_at hl 1 rfl) ?_
      refine lv_aload hx hb dX4_read_60 (lv_at hl 0 rfl) ?_
      refine x_cVi (C := RX4) (As := [.ref (ad (5, (ix x1)))]) (rest := []) ⟨hx, hb, hml, hown, hts⟩ hK hP hS (c_X4_doneAtOnce l hAd hC σ17 (ix x1) (ix_lt hin5) _ h) (cwV 1 hts gX4_read_X4_doneAtOnce rfl rfl rfl (by decide +kernel) ⟨Nat.le_of_ble_eq_true rfl, Nat.le_of_ble_eq_true rfl⟩) (x_recv hK hP (in1 hC (a := 0) (by decide) (by decide)) rfl rfl) rfl hl.1 rfl (Nat.le_of_ble_eq_true rfl) dX4_read_62 ⟨Nat.zero_le _, Nat.zero_le _⟩ (fun r21 σ20 H locs h hP hS => ?_)
      exact W.iret (v := r21) hx hb hr (fun t ht hW => ⟨⟨r21, σ20, rfl, h, by rw [ht]; exact hP, va_K.moved hW.alike hK⟩, hS.F ht⟩) hS.2.2 dX4_read_65
    · have h := h.1 c10
      refine lv_aload_n hx hb dX4_read_42 rfl (lv_at hl 1 rfl) ?_
      refine lv_aload hx hb dX4_read_43 (lv_at hl 0 rfl) ?_
      refine lv_iconst (v := 1) hx hb dX4_read_45 (by decide) ?_
      refine lv_iconst (v := 1) hx hb dX4_read_46 (by decide) ?_
      refine x_cVv (C := RX4) (As := [.ref (ad (5, (ix x1))), .int 1, .int 1]) (rest := []) ⟨hx, hb, hml, hown, hts⟩ hK hP hS (c_X4_ask l hAd hC σ6 (ix x1) (ix_lt hin5) 1 1 _ h) (cwV 3 hts gX4_read_X4_ask rfl rfl rfl (by decide +kernel) ⟨Nat.le_of_ble_eq_true rfl, Nat.le_of_ble_eq_true rfl⟩) (x_recv hK hP (in1 hC (a := 0) (by decide) (by decide)) rfl rfl) rfl hl.1 rfl (Nat.le_of_ble_eq_true rfl) dX4_read_47 ⟨Nat.zero_le _, Nat.zero_le _⟩ (fun σ11 H locs h hP hS => ?_)
      refine lv_goto (tgt := 59) hx hb dX4_read_50 (by decide) ?_
      refine lv_aload_n hx hb dX4_read_59 rfl (lv_at hl 1 rfl) ?_
      refine lv_aload hx hb dX4_read_60 (lv_at hl 0 rfl) ?_
      refine x_cVi (C := RX4) (As := [.ref (ad (5, (ix x1)))]) (rest := []) ⟨hx, hb, hml, hown, hts⟩ hK hP hS (c_X4_doneAtOnce l hAd hC σ11 (ix x1) (ix_lt hin5) _ h) (cwV 1 hts gX4_read_X4_doneAtOnce rfl rfl rfl (by decide +kernel) ⟨Nat.le_of_ble_eq_true rfl, Nat.le_of_ble_eq_true rfl⟩) (x_recv hK hP (in1 hC (a := 0) (by decide) (by decide)) rfl rfl) rfl hl.1 rfl (Nat.le_of_ble_eq_true rfl) dX4_read_62 ⟨Nat.zero_le _, Nat.zero_le _⟩ (fun r15 σ14 H locs h hP hS => ?_)
      exact W.iret (v := r15) hx hb hr (fun t ht hW => ⟨⟨r15, σ14, rfl, h, by rw [ht]; exact hP, va_K.moved hW.alike hK⟩, hS.F ht⟩) hS.2.2 dX4_read_65
  · have h := h.1 c4
    refine lv_iconst (v := (-1)) hx hb dX4_read_10 (by decide) ?_
    exact W.iret (v := (-1)) hx hb hr (fun t ht hW => ⟨⟨(-1), σ1, rfl, h, by rw [ht]; exact hP, va_K.moved hW.alike hK⟩, hS.F ht⟩) hS.2.2 dX4_read_11
theorem iw_X4_write_X3 : ∀ w ∈ wsX30, w ∈ wsX4_write := fun _ h => List.mem_cons_of_mem _ (List.mem_append_left _ (List.mem_append_left _ (List.mem_append_left _ (List.mem_append_right _ h))))
theorem iw_X4_write_X4 : ∀ w ∈ wsX40, w ∈ wsX4_write := fun _ h => List.mem_cons_of_mem _ (List.mem_append_left _ (List.mem_append_left _ (List.mem_append_left _ (List.mem_append_left _ (List.mem_append_right _ h)))))
def wp_X4_write (σ : Sg) (x1 : Int32) (x2 : Int32) (x3 : Int32) (x4 : Int64) (Q : Sg → Int32 → Prop) : Prop := (wp_X4_mayStart σ x1 x2 x3 (fun σ1 r2 => ((r2 = 0 → Q σ1 (-1)) ∧ (¬ (r2 = 0) → (vp_in x1 6 ∧ (wp_X0_take σ1 (ix x1) x2 x3 1 x4 (fun σ6 => (vp_in x2 8 ∧ (((σ6.1 7 (ix x1) (ix x2)) = 2 → (wp_X4_finish σ6 (ix x1) (fun σ11 => (wp_X4_doneAtOnce σ11 (ix x1) (fun σ14 r15 => Q σ14 r15))))) ∧ (¬ ((σ6.1 7 (ix x1) (ix x2)) = 2) → (vp_in x2 8 ∧ (((σ6.1 8 (ix x1) (ix x2)) = 0 → (wp_X4_ask σ6 (ix x1) 2 2 (fun σ19 => (wp_X4_doneAtOnce σ19 (ix x1) (fun σ22 r23 => Q σ22 r23))))) ∧ (¬ ((σ6.1 8 (ix x1) (ix x2)) = 0) → (wp_X4_callBack σ6 (ix x1) (fun σ25 => (wp_X4_finishIfAllAnswered σ25 (ix x1) (fun σ28 => (wp_X4_doneAtOnce σ28 (ix x1) (fun σ31 r32 => Q σ31 r32)))))))))))))))))))
abbrev rm_X4_write : Room := { frames := 7, cells := 0, slots := 0, locals := 158 }
set_option maxHeartbeats 4000000 in
set_option maxRecDepth 100000 in
theorem c_X4_write (l : Launch) {D : va_G} {P : List (Nat × Nat)} {ad : Nat × Nat → Nat} {cy : Nat → ClassId} (hAd : AdOk P ad) (hC : InC P) (σ : Sg) (x1 : Int32) (x2 : Int32) (x3 : Int32) (x4 : Int64) (Q : Sg → Int32 → Prop) (h : wp_X4_write σ x1 x2 x3 x4 Q) : Met l yX4_write wsX4_write rm_X4_write (xPc D P ad cy σ [.ref (ad (0, 0)), .int x1, .int x2, .int x3, .long x4]) (va_Qi (fun r σ' => Q σ' r) (xB D P ad cy) (Aof P ad)) 0 0 (Aof P ad) := by
  refine Met.ofW (cc := cX4_write) (maxL := 7) (ret := (some .int)) (by decide +kernel) rfl ?_
  intro p e s m args below meth c s₁ B hml hv
  obtain ⟨rfl, hP, hK⟩ := hv
  have hx := B.exec
  have hb := B.bytes
  have hr := B.returns
  have hts := atoms_spec (ws := wsX4_write) B.pre
  have hown : s.vm.findClass RX4 = some m.cls := findClass_of_methodNamed B.named
  have hlocks := B.notSynchronized
  have hS : va_S (Aof P ad) s.heap s.heap [] := va_S.rf
  have hl := lv_entry ([.ref (ad (0, 0)), .int x1, .int x2, .int x3, .long x4] : List Value) (n := 7) (Nat.le_of_ble_eq_true rfl)
  rw [lg_entry_eq]
  generalize (lg_sl ([.ref (ad (0, 0)), .int x1, .int x2, .int x3, .long x4] : List Value) ++ List.replicate (7 - (lg_sl ([.ref (ad (0, 0)), .int x1, .int x2, .int x3, .long x4] : List Value)).length) Slot.unset).toArray = ls at hl ⊢
  have hl : lv_has ls 7 [(0, .ref (ad (0, 0))), (1, .int x1), (2, .int x2), (3, .int x3), (4, .long x4)] := hl
  unfold wp_X4_write at h
  refine lv_aload_n hx hb dX4_write_0 rfl (lv_at hl 0 rfl) ?_
  refine lv_iload_n hx hb dX4_write_1 rfl (lv_at hl 1 rfl) ?_
  refine lv_iload_n hx hb dX4_write_2 rfl (lv_at hl 2 rfl) ?_
  refine lv_iload_n hx hb dX4_write_3 rfl (lv_at hl 3 rfl) ?_
  refine x_cVi (C := RX4) (As := [.int x1, .int x2, .int x3]) (rest := []) ⟨hx, hb, hml, hown, hts⟩ hK hP hS (c_X4_mayStart l hAd hC σ x1 x2 x3 _ h) (cwV 3 hts gX4_write_X4_mayStart rfl rfl rfl (by decide +kernel) ⟨Nat.le_of_ble_eq_true rfl, Nat.le_of_ble_eq_true rfl⟩) (x_recv hK hP (in1 hC (a := 0) (by decide) (by decide)) rfl rfl) rfl hl.1 rfl (Nat.le_of_ble_eq_true rfl) dX4_write_4 ⟨Nat.zero_le _, Nat.zero_le _⟩ (fun r2 σ1 H locs h hP hS => ?_)
  refine lv_if_ne (tgt := 12) hx hb dX4_write_7 (by decide) (fun c4 => ?_) (fun c4 => ?_)
  · have h := h.2 c4
    refine lv_aload_n hx hb dX4_write_12 rfl (lv_at hl 0 rfl) ?_
    refine x_get (C := RX4) (T := TX4) (N := 4) (ci := 4) (a := 0) (k := 0) (v := .ref (ad (1, 0))) hx hb hts iw_X4_write_X4 hown hK hP (in1 hC (a := 0) (by decide) (by decide)) rfl rfl 0 (by decide) (hts (.fieldLink RX4 11 "PageOwners" "all" "[LPageOwners$Node;") (by decide +kernel)) (fun _ h9 => h9) rfl dX4_write_13 ?_
    refine lv_iload_n hx hb dX4_write_16 rfl (lv_at hl 1 rfl) ?_
    have hin5 := h.1
    have h := h.2
    refine x_aldN hC hx hb hK hP hin5 dX4_write_17 ?_
    refine lv_astore (lv' := [(6, .ref (ad (5, (ix x1)))), (0, .ref (ad (0, 0))), (1, .int x1), (2, .int x2), (3, .int x3), (4, .long x4)]) hx hb dX4_write_18 hl (by decide) rfl (fun ls hl => ?_)
    refine lv_aload hx hb dX4_write_20 (lv_at hl 0 rfl) ?_
    refine x_get (C := RX3) (T := TX3) (N := 10) (ci := 3) (a := 5) (k := (ix x1)) (v := .ref (ad (6, (ix x1)))) hx hb hts iw_X4_write_X3 hown hK hP (in6 hC (a := 5) (by decide) (ix_lt hin5)) rfl rfl 1 (by decide) (hts (.fieldLink RX4 36 "PageOwners$Node" "hand" "LPageOwners$Hand;") (by decide +kernel)) (fun _ h9 => h9) rfl dX4_write_22 ?_
    refine lv_iload_n hx hb dX4_write_25 rfl (lv_at hl 3 rfl) ?_
    refine lv_iload_n hx hb dX4_write_26 rfl (lv_at hl 4 rfl) ?_
    refine lv_iconst (v := 1) hx hb dX4_write_27 (by decide) ?_
    refine lv_lload hx hb dX4_write_28 (lv_at hl 5 rfl) ?_
    refine x_cVv (C := RX0) (As := [.int x2, .int x3, .int 1, .long x4]) (rest := []) ⟨hx, hb, hml, hown, hts⟩ hK hP hS (c_X0_take l hAd hC σ1 (ix x1) (ix_lt hin5) x2 x3 1 x4 _ h) (cwV 4 hts gX4_write_X0_take rfl rfl rfl (by decide +kernel) ⟨Nat.le_of_ble_eq_true rfl, Nat.le_of_ble_eq_true rfl⟩) (x_recv hK hP (in6 hC (a := 6) (by decide) (ix_lt hin5)) rfl rfl) rfl hl.1 rfl (Nat.le_of_ble_eq_true rfl) dX4_write_30 ⟨Nat.zero_le _, Nat.zero_le _⟩ (fun σ6 H locs h hP hS => ?_)
    refine lv_aload hx hb dX4_write_33 (lv_at hl 0 rfl) ?_
    refine x_get (C := RX3) (T := TX3) (N := 10) (ci := 3) (a := 5) (k := (ix x1)) (v := .ref (ad (7, (ix x1)))) hx hb hts iw_X4_write_X3 hown hK hP (in6 hC (a := 5) (by decide) (ix_lt hin5)) rfl rfl 2 (by decide) (hts (.fieldLink RX4 46 "PageOwners$Node" "accessTo" "[I") (by decide +kernel)) (fun _ h9 => h9) rfl dX4_write_35 ?_
    refine lv_iload_n hx hb dX4_write_38 rfl (lv_at hl 3 rfl) ?_
    have hin9 := h.1
    have h := h.2
    refine x_iald (a := 7) (k := (ix x1)) (n := 8) hx hb hK hP (in6 hC (a := 7) (by decide) (ix_lt hin5)) (fun _ => rfl) hin9 dX4_write_39 ?_
    refine lv_iconst (v := 2) hx hb dX4_write_40 (by decide) ?_
    refine lv_icmp_ne (tgt := 53) hx hb dX4_write_41 (by decide) (fun c10 => ?_) (fun c10 => ?_)
    · have h := h.2 c10
      refine lv_aload hx hb dX4_write_53 (lv_at hl 0 rfl) ?_
      refine x_get (C := RX3) (T := TX3) (N := 10) (ci := 3) (a := 5) (k := (ix x1)) (v := .ref (ad (8, (ix x1)))) hx hb hts iw_X4_write_X3 hown hK hP (in6 hC (a := 5) (by decide) (ix_lt hin5)) rfl rfl 3 (by decide) (hts (.fieldLink RX4 61 "PageOwners$Node" "owns" "[Z") (by decide +kernel)) (fun _ h9 => h9) rfl dX4_write_55 ?_
      refine lv_iload_n hx hb dX4_write_58 rfl (lv_at hl 3 rfl) ?_
      have hin17 := h.1
      have h := h.2
      refine x_zald (a := 8) (k := (ix x1)) (n := 8) hx hb hK hP (in6 hC (a := 8) (by decide) (ix_lt hin5)) (fun _ => rfl) hin17 dX4_write_59 ?_
      refine lv_if_eq (tgt := 78) hx hb dX4_write_60 (by decide) (fun c18 => ?_) (fun c18 => ?_)
      · have h := h.1 c18
        refine lv_aload_n hx hb dX4_write_78 rfl (lv_at hl 1 rfl) ?_
        refine lv_aload hx hb dX4_write_79 (lv_at hl 0 rfl) ?_
        refine lv_iconst (v := 2) hx hb dX4_write_81 (by decide) ?_
        refine lv_iconst (v := 2) hx hb dX4_write_82 (by decide) ?_
        refine x_cVv (C := RX4) (As := [.ref (ad (5, (ix x1))), .int 2, .int 2]) (rest := []) ⟨hx, hb, hml, hown, hts⟩ hK hP hS (c_X4_ask l hAd hC σ6 (ix x1) (ix_lt hin5) 2 2 _ h) (cwV 3 hts gX4_write_X4_ask rfl rfl rfl (by decide +kernel) ⟨Nat.le_of_ble_eq_true rfl, Nat.le_of_ble_eq_true rfl⟩) (x_recv hK hP (in1 hC (a := 0) (by decide) (by decide)) rfl rfl) rfl hl.1 rfl (Nat.le_of_ble_eq_true rfl) dX4_write_83 ⟨Nat.zero_le _, Nat.zero_le _⟩ (fun σ19 H locs h hP hS => ?_)
        refine lv_aload_n hx hb dX4_write_86 rfl (lv_at hl 1 rfl) ?_
        refine lv_aload hx hb dX4_write_87 (lv_at hl 0 rfl) ?_
        refine x_cVi (C := RX4) (As := [.ref (ad (5, (ix x1)))]) (rest := []) ⟨hx, hb, hml, hown, hts⟩ hK hP hS (c_X4_doneAtOnce l hAd hC σ19 (ix x1) (ix_lt hin5) _ h) (cwV 1 hts gX4_write_X4_doneAtOnce rfl rfl rfl (by decide +kernel) ⟨Nat.le_of_ble_eq_true rfl, Nat.le_of_ble_eq_true rfl⟩) (x_recv hK hP (in1 hC (a := 0) (by decide) (by decide)) rfl rfl) rfl hl.1 rfl (Nat.le_of_ble_eq_true rfl) dX4_write_89 ⟨Nat.zero_le _, Nat.zero_le _⟩ (fun r23 σ22 H locs h hP hS => ?_)
        exact W.iret (v := r23) hx hb hr (fun t ht hW => ⟨⟨r23, σ22, rfl, h, by rw [ht]; exact hP, va_K.moved hW.alike hK⟩, hS.F ht⟩) hS.2.2 dX4_write_92
      · have h := h.2 c18
        refine lv_aload_n hx hb dX4_write_63 rfl (lv_at hl 1 rfl) ?_
        refine lv_aload hx hb dX4_write_64 (lv_at hl 0 rfl) ?_
        refine x_cVv (C := RX4) (As := [.ref (ad (5, (ix x1)))]) (rest := []) ⟨hx, hb, hml, hown, hts⟩ hK hP hS (c_X4_callBack l hAd hC σ6 (ix x1) (ix_lt hin5) _ h) (cwV 1 hts gX4_write_X4_callBack rfl rfl rfl (by decide +kernel) ⟨Nat.le_of_ble_eq_true rfl, Nat.le_of_ble_eq_true rfl⟩) (x_recv hK hP (in1 hC (a := 0) (by decide) (by decide)) rfl rfl) rfl hl.1 rfl (Nat.le_of_ble_eq_true rfl) dX4_write_66 ⟨Nat.zero_le _, Nat.zero_le _⟩ (fun σ25 H locs h hP hS => ?_)
        refine lv_aload_n hx hb dX4_write_69 rfl (lv_at hl 1 rfl) ?_
        refine lv_aload hx hb dX4_write_70 (lv_at hl 0 rfl) ?_
        refine x_cVv (C := RX4) (As := [.ref (ad (5, (ix x1)))]) (rest := []) ⟨hx, hb, hml, hown, hts⟩ hK hP hS (c_X4_finishIfAllAnswered l hAd hC σ25 (ix x1) (ix_lt hin5) _ h) (cwV 1 hts gX4_write_X4_finishIfAllAnswered rfl rfl rfl (by decide +kernel) ⟨Nat.le_of_ble_eq_true rfl, Nat.le_of_ble_eq_true rfl⟩) (x_recv hK hP (in1 hC (a := 0) (by decide) (by decide)) rfl rfl) rfl hl.1 rfl (Nat.le_of_ble_eq_true rfl) dX4_write_72 ⟨Nat.zero_le _, Nat.zero_le _⟩ (fun σ28 H locs h hP hS => ?_)
        refine lv_goto (tgt := 86) hx hb dX4_write_75 (by decide) ?_
        refine lv_aload_n hx hb dX4_write_86 rfl (lv_at hl 1 rfl) ?_
        refine lv_aload hx hb dX4_write_87 (lv_at hl 0 rfl) ?_
        refine x_cVi (C := RX4) (As := [.ref (ad (5, (ix x1)))]) (rest := []) ⟨hx, hb, hml, hown, hts⟩ hK hP hS (c_X4_doneAtOnce l hAd hC σ28 (ix x1) (ix_lt hin5) _ h) (cwV 1 hts gX4_write_X4_doneAtOnce rfl rfl rfl (by decide +kernel) ⟨Nat.le_of_ble_eq_true rfl, Nat.le_of_ble_eq_true rfl⟩) (x_recv hK hP (in1 hC (a := 0) (by decide) (by decide)) rfl rfl) rfl hl.1 rfl (Nat.le_of_ble_eq_true rfl) dX4_write_89 ⟨Nat.zero_le _, Nat.zero_le _⟩ (fun r32 σ31 H locs h hP hS => ?_)
        exact W.iret (v := r32) hx hb hr (fun t ht hW => ⟨⟨r32, σ31, rfl, h, by rw [ht]; exact hP, va_K.moved hW.alike hK⟩, hS.F ht⟩) hS.2.2 dX4_write_92
    · have h := h.1 c10
      refine lv_aload_n hx hb dX4_write_44 rfl (lv_at hl 1 rfl) ?_
      refine lv_aload hx hb dX4_write_45 (lv_at hl 0 rfl) ?_
      refine x_cVv (C := RX4) (As := [.ref (ad (5, (ix x1)))]) (rest := []) ⟨hx, hb, hml, hown, hts⟩ hK hP hS (c_X4_finish l hAd hC σ6 (ix x1) (ix_lt hin5) _ h) (cwV 1 hts gX4_write_X4_finish rfl rfl rfl (by decide +kernel) ⟨Nat.le_of_ble_eq_true rfl, Nat.le_of_ble_eq_true rfl⟩) (x_recv hK hP (in1 hC (a := 0) (by decide) (by decide)) rfl rfl) rfl hl.1 rfl (Nat.le_of_ble_eq_true rfl) dX4_write_47 ⟨Nat.zero_le _, Nat.zero_le _⟩ (fun σ11 H locs h hP hS => ?_)
      refine lv_goto (tgt := 86) hx hb dX4_write_50 (by decide) ?_
      refine lv_aload_n hx hb dX4_write_86 rfl (lv_at hl 1 rfl) ?_
      refine lv_aload hx hb dX4_write_87 (lv_at hl 0 rfl) ?_
      refine x_cVi (C := RX4) (As := [.ref (ad (5, (ix x1)))]) (rest := []) ⟨hx, hb, hml, hown, hts⟩ hK hP hS (c_X4_doneAtOnce l hAd hC σ11 (ix x1) (ix_lt hin5) _ h) (cwV 1 hts gX4_write_X4_doneAtOnce rfl rfl rfl (by decide +kernel) ⟨Nat.le_of_ble_eq_true rfl, Nat.le_of_ble_eq_true rfl⟩) (x_recv hK hP (in1 hC (a := 0) (by decide) (by decide)) rfl rfl) rfl hl.1 rfl (Nat.le_of_ble_eq_true rfl) dX4_write_89 ⟨Nat.zero_le _, Nat.zero_le _⟩ (fun r15 σ14 H locs h hP hS => ?_)
      exact W.iret (v := r15) hx hb hr (fun t ht hW => ⟨⟨r15, σ14, rfl, h, by rw [ht]; exact hP, va_K.moved hW.alike hK⟩, hS.F ht⟩) hS.2.2 dX4_write_92
  · have h := h.1 c4
    refine lv_iconst (v := (-1)) hx hb dX4_write_10 (by decide) ?_
    exact W.iret (v := (-1)) hx hb hr (fun t ht hW => ⟨⟨(-1), σ1, rfl, h, by rw [ht]; exact hP, va_K.moved hW.alike hK⟩, hS.F ht⟩) hS.2.2 dX4_write_11
theorem iw_X4_deliver_X0 : ∀ w ∈ wsX00, w ∈ wsX4_deliver := fun _ h => List.mem_cons_of_mem _ (List.mem_append_left _ (List.mem_append_right _ h))
theorem iw_X4_deliver_X1 : ∀ w ∈ wsX10, w ∈ wsX4_deliver := fun _ h => List.mem_cons_of_mem _ (List.mem_append_left _ (List.mem_append_left _ (List.mem_append_left _ (List.mem_append_right _ h))))
theorem iw_X4_deliver_X3 : ∀ w ∈ wsX30, w ∈ wsX4_deliver := fun _ h => List.mem_cons_of_mem _ (List.mem_append_left _ (List.mem_append_left _ (List.mem_append_right _ h)))
theorem iw_X4_deliver_X4 : ∀ w ∈ wsX40, w ∈ wsX4_deliver := fun _ h => List.mem_cons_of_mem _ (List.mem_append_left _ (List.mem_append_left _ (List.mem_append_left _ (List.mem_append_left _ (List.mem_append_right _ h)))))
def wp_X4_deliver (σ : Sg) (x1 : Int32) (Q : Sg → Int32 → Prop) : Prop := (wp_X2_has σ x1 (fun σ1 r2 => ((r2 = 0 → Q σ1 (-1)) ∧ (¬ (r2 = 0) → (wp_X2_takeOut σ1 x1 (fun σ5 r6 => (vp_in (σ5.1 15 r6 2) 6 ∧ (((σ5.1 15 r6 0) = 1 → (wp_X4_askingComes σ5 (ix (σ5.1 15 r6 2)) (σ5.1 15 r6 0) (σ5.1 15 r6 3) (σ5.1 15 r6 4) (fun σ10 => Q σ10 (σ10.1 15 r6 0)))) ∧ (¬ ((σ5.1 15 r6 0) = 1) → (((σ5.1 15 r6 0) = 2 → (wp_X4_askingComes σ5 (ix (σ5.1 15 r6 2)) (σ5.1 15 r6 0) (σ5.1 15 r6 3) (σ5.1 15 r6 4) (fun σ14 => Q σ14 (σ14.1 15 r6 0)))) ∧ (¬ ((σ5.1 15 r6 0) = 2) → (((σ5.1 15 r6 0) = 3 → (wp_X4_givenToRead σ5 (ix (σ5.1 15 r6 2)) r6 (fun σ18 => Q σ18 (σ18.1 15 r6 0)))) ∧ (¬ ((σ5.1 15 r6 0) = 3) → (((σ5.1 15 r6 0) = 4 → (wp_X4_givenToWrite σ5 (ix (σ5.1 15 r6 2)) r6 (fun σ22 => (wp_X4_finishIfAllAnswered σ22 (ix (σ5.1 15 r6 2)) (fun σ25 => Q σ25 (σ25.1 15 r6 0)))))) ∧ (¬ ((σ5.1 15 r6 0) = 4) → (((σ5.1 15 r6 0) = 5 → (wp_X4_calledBack σ5 (ix (σ5.1 15 r6 2)) (σ5.1 15 r6 3) (σ5.1 15 r6 1) (fun σ29 => Q σ29 (σ29.1 15 r6 0)))) ∧ (¬ ((σ5.1 15 r6 0) = 5) → (∀ σ32, σ32 = sI σ5 6 (ix (σ5.1 15 r6 2)) 6 ((σ5.1 6 (ix (σ5.1 15 r6 2)) 6) - 1) → (wp_X4_finishIfAllAnswered σ32 (ix (σ5.1 15 r6 2)) (fun σ34 => Q σ34 (σ34.1 15 r6 0)))))))))))))))))))))
abbrev rm_X4_deliver : Room := { frames := 7, cells := 0, slots := 0, locals := 158 }
set_option maxHeartbeats 4000000 in
set_option maxRecDepth 100000 in
theorem c_X4_deliver (l : Launch) {D : va_G} {P : List (Nat × Nat)} {ad : Nat × Nat → Nat} {cy : Nat → ClassId} (hAd : AdOk P ad) (hC : InC P) (σ : Sg) (x1 : Int32) (Q : Sg → Int32 → Prop) (h : wp_X4_deliver σ x1 Q) : Met l yX4_deliver wsX4_deliver rm_X4_deliver (xPc D P ad cy σ [.ref (ad (0, 0)), .int x1]) (va_Qi (fun r σ' => Q σ' r) (xB D P ad cy) (Aof P ad)) 0 0 (Aof P ad) := by
  refine Met.ofW (cc := cX4_deliver) (maxL := 4) (ret := (some .int)) (by decide +kernel) rfl ?_
  intro p e s m args below meth c s₁ B hml hv
  obtain ⟨rfl, hP, hK⟩ := hv
  have hx := B.exec
  have hb := B.bytes
  have hr := B.returns
  have hts := atoms_spec (ws := wsX4_deliver) B.pre
  have hown : s.vm.findClass RX4 = some m.cls := findClass_of_methodNamed B.named
  have hlocks := B.notSynchronized
  have hS : va_S (Aof P ad) s.heap s.heap [] := va_S.rf
  have hl := lv_entry ([.ref (ad (0, 0)), .int x1] : List Value) (n := 4) (Nat.le_of_ble_eq_true rfl)
  rw [lg_entry_eq]
  generalize (lg_sl ([.ref (ad (0, 0)), .int x1] : List Value) ++ List.replicate (4 - (lg_sl ([.ref (ad (0, 0)), .int x1] : List Value)).length) Slot.unset).toArray = ls at hl ⊢
  have hl : lv_has ls 4 [(0, .ref (ad (0, 0))), (1, .int x1)] := hl
  unfold wp_X4_deliver at h
  refine lv_aload_n hx hb dX4_deliver_0 rfl (lv_at hl 0 rfl) ?_
  refine x_get (C := RX4) (T := TX4) (N := 4) (ci := 4) (a := 0) (k := 0) (v := .ref (ad (3, 0))) hx hb hts iw_X4_deliver_X4 hown hK hP (in1 hC (a := 0) (by decide) (by decide)) rfl rfl 1 (by decide) (hts (.fieldLink RX4 18 "PageOwners" "mail" "LPageOwners$Mail;") (by decide +kernel)) (fun _ h9 => h9) rfl dX4_deliver_1 ?_
  refine lv_iload_n hx hb dX4_deliver_4 rfl (lv_at hl 1 rfl) ?_
  refine x_cVi (C := RX2) (As := [.int x1]) (rest := []) ⟨hx, hb, hml, hown, hts⟩ hK hP hS (c_X2_has l hAd hC σ x1 _ h) (cwV 1 hts gX4_deliver_X2_has rfl rfl rfl (by decide +kernel) ⟨Nat.le_of_ble_eq_true rfl, Nat.le_of_ble_eq_true rfl⟩) (x_recv hK hP (in1 hC (a := 3) (by decide) (by decide)) rfl rfl) rfl hl.1 rfl (Nat.le_of_ble_eq_true rfl) dX4_deliver_5 ⟨Nat.zero_le _, Nat.zero_le _⟩ (fun r2 σ1 H locs h hP hS => ?_)
  refine lv_if_ne (tgt := 13) hx hb dX4_deliver_8 (by decide) (fun c4 => ?_) (fun c4 => ?_)
  · have h := h.2 c4
    refine lv_aload_n hx hb dX4_deliver_13 rfl (lv_at hl 0 rfl) ?_
    refine x_get (C := RX4) (T := TX4) (N := 4) (ci := 4) (a := 0) (k := 0) (v := .ref (ad (3, 0))) hx hb hts iw_X4_deliver_X4 hown hK hP (in1 hC (a := 0) (by decide) (by decide)) rfl rfl 1 (by decide) (hts (.fieldLink RX4 18 "PageOwners" "mail" "LPageOwners$Mail;") (by decide +kernel)) (fun _ h9 => h9) rfl dX4_deliver_14 ?_
    refine lv_iload_n hx hb dX4_deliver_17 rfl (lv_at hl 1 rfl) ?_
    refine x_cVr (C := RX2) (As := [.int x1]) (rest := []) ⟨hx, hb, hml, hown, hts⟩ hK hP hS (c_X2_takeOut l hAd hC σ1 x1 _ h) (cwV 1 hts gX4_deliver_X2_takeOut rfl rfl rfl (by decide +kernel) ⟨Nat.le_of_ble_eq_true rfl, Nat.le_of_ble_eq_true rfl⟩) (x_recv hK hP (in1 hC (a := 3) (by decide) (by decide)) rfl rfl) rfl hl.1 rfl (Nat.le_of_ble_eq_true rfl) dX4_deliver_18 ⟨Nat.zero_le _, Nat.zero_le _⟩ (fun r6 σ5 H locs hr7 h hP hS => ?_)
    refine lv_astore_n (lv' := [(2, .ref (ad (15, r6))), (0, .ref (ad (0, 0))), (1, .int x1)]) hx hb dX4_deliver_21 rfl hl (by decide) rfl (fun ls hl => ?_)
    refine lv_aload_n hx hb dX4_deliver_22 rfl (lv_at hl 1 rfl) ?_
    refine x_get (C := RX4) (T := TX4) (N := 4) (ci := 4) (a := 0) (k := 0) (v := .ref (ad (1, 0))) hx hb hts iw_X4_deliver_X4 hown hK hP (in1 hC (a := 0) (by decide) (by decide)) rfl rfl 0 (by decide) (hts (.fieldLink RX4 11 "PageOwners" "all" "[LPageOwners$Node;") (by decide +kernel)) (fun _ h9 => h9) rfl dX4_deliver_23 ?_
    refine lv_aload_n hx hb dX4_deliver_26 rfl (lv_at hl 0 rfl) ?_
    refine x_get (C := RX1) (T := TX1) (N := 7) (ci := 1) (a := 15) (k := r6) (v := .int (σ5.1 15 r6 2)) hx hb hts iw_X4_deliver_X1 hown hK hP (in32 hC (a := 15) (by decide) hr7) rfl rfl 2 (by decide) (hts (.fieldLink RX4 79 "PageOwners$Letter" "to" "I") (by decide +kernel)) (fun _ h9 => h9) rfl dX4_deliver_27 ?_
    have hin8 := h.1
    have h := h.2
    refine x_aldN hC hx hb hK hP hin8 dX4_deliver_30 ?_
    refine lv_astore_n (lv' := [(3, .ref (ad (5, (ix (σ5.1 15 r6 2))))), (2, .ref (ad (15, r6))), (0, .ref (ad (0, 0))), (1, .int x1)]) hx hb dX4_deliver_31 rfl hl (by decide) rfl (fun ls hl => ?_)
    refine lv_aload_n hx hb dX4_deliver_32 rfl (lv_at hl 1 rfl) ?_
    refine x_get (C := RX1) (T := TX1) (N := 7) (ci := 1) (a := 15) (k := r6) (v := .int (σ5.1 15 r6 0)) hx hb hts iw_X4_deliver_X1 hown hK hP (in32 hC (a := 15) (by decide) hr7) rfl rfl 0 (by decide) (hts (.fieldLink RX4 85 "PageOwners$Letter" "kind" "I") (by decide +kernel)) (fun _ h9 => h9) rfl dX4_deliver_33 ?_
    by_cases c9 : (σ5.1 15 r6 0) = 1
    · have h := h.1 c9
      refine lv_tableIn (off := 36) (tgt := 72) hx hb dX4_deliver_36 (by rw [c9]; decide) (by rw [c9]; decide) (by rw [c9]; decide +kernel) (by decide) ?_
      refine lv_aload_n hx hb dX4_deliver_72 rfl (lv_at hl 2 rfl) ?_
      refine lv_aload_n hx hb dX4_deliver_73 rfl (lv_at hl 0 rfl) ?_
      refine lv_aload_n hx hb dX4_deliver_74 rfl (lv_at hl 1 rfl) ?_
      refine x_get (C := RX1) (T := TX1) (N := 7) (ci := 1) (a := 15) (k := r6) (v := .int (σ5.1 15 r6 0)) hx hb hts iw_X4_deliver_X1 hown hK hP (in32 hC (a := 15) (by decide) hr7) rfl rfl 0 (by decide) (hts (.fieldLink RX4 85 "PageOwners$Letter" "kind" "I") (by decide +kernel)) (fun _ h9 => h9) rfl dX4_deliver_75 ?_
      refine lv_aload_n hx hb dX4_deliver_78 rfl (lv_at hl 1 rfl) ?_
      refine x_get (C := RX1) (T := TX1) (N := 7) (ci := 1) (a := 15) (k := r6) (v := .int (σ5.1 15 r6 3)) hx hb hts iw_X4_deliver_X1 hown hK hP (in32 hC (a := 15) (by decide) hr7) rfl rfl 3 (by decide) (hts (.fieldLink RX4 88 "PageOwners$Letter" "page" "I") (by decide +kernel)) (fun _ h9 => h9) rfl dX4_deliver_79 ?_
      refine lv_aload_n hx hb dX4_deliver_82 rfl (lv_at hl 1 rfl) ?_
      refine x_get (C := RX1) (T := TX1) (N := 7) (ci := 1) (a := 15) (k := r6) (v := .int (σ5.1 15 r6 4)) hx hb hts iw_X4_deliver_X1 hown hK hP (in32 hC (a := 15) (by decide) hr7) rfl rfl 4 (by decide) (hts (.fieldLink RX4 91 "PageOwners$Letter" "asker" "I") (by decide +kernel)) (fun _ h9 => h9) rfl dX4_deliver_83 ?_
      refine x_cVv (C := RX4) (As := [.ref (ad (5, (ix (σ5.1 15 r6 2)))), .int (σ5.1 15 r6 0), .int (σ5.1 15 r6 3), .int (σ5.1 15 r6 4)]) (rest := []) ⟨hx, hb, hml, hown, hts⟩ hK hP hS (c_X4_askingComes l hAd hC σ5 (ix (σ5.1 15 r6 2)) (ix_lt hin8) (σ5.1 15 r6 0) (σ5.1 15 r6 3) (σ5.1 15 r6 4) _ h) (cwV 4 hts gX4_deliver_X4_askingComes rfl rfl rfl (by decide +kernel) ⟨Nat.le_of_ble_eq_true rfl, Nat.le_of_ble_eq_true rfl⟩) (x_recv hK hP (in1 hC (a := 0) (by decide) (by decide)) rfl rfl) rfl hl.1 rfl (Nat.le_of_ble_eq_true rfl) dX4_deliver_86 ⟨Nat.zero_le _, Nat.zero_le _⟩ (fun σ10 H locs h hP hS => ?_)
      refine lv_goto (tgt := 149) hx hb dX4_deliver_89 (by decide) ?_
      refine lv_aload_n hx hb dX4_deliver_149 rfl (lv_at hl 1 rfl) ?_
      refine x_get (C := RX1) (T := TX1) (N := 7) (ci := 1) (a := 15) (k := r6) (v := .int (σ10.1 15 r6 0)) hx hb hts iw_X4_deliver_X1 hown hK hP (in32 hC (a := 15) (by decide) hr7) rfl rfl 0 (by decide) (hts (.fieldLink RX4 85 "PageOwners$Letter" "kind" "I") (by decide +kernel)) (fun _ h9 => h9) rfl dX4_deliver_150 ?_
      exact W.iret (v := (σ10.1 15 r6 0)) hx hb hr (fun t ht hW => ⟨⟨(σ10.1 15 r6 0), σ10, rfl, h, by rw [ht]; exact hP, va_K.moved hW.alike hK⟩, hS.F ht⟩) hS.2.2 dX4_deliver_153
    · have h := h.2 c9
      by_cases c13 : (σ5.1 15 r6 0) = 2
      · have h := h.1 c13
        refine lv_tableIn (off := 36) (tgt := 72) hx hb dX4_deliver_36 (by rw [c13]; decide) (by rw [c13]; decide) (by rw [c13]; decide +kernel) (by decide) ?_
        refine lv_aload_n hx hb dX4_deliver_72 rfl (lv_at hl 2 rfl) ?_
        refine lv_aload_n hx hb dX4_deliver_73 rfl (lv_at hl 0 rfl) ?_
        refine lv_aload_n hx hb dX4_deliver_74 rfl (lv_at hl 1 rfl) ?_
        refine x_get (C := RX1) (T := TX1) (N := 7) (ci := 1) (a := 15) (k := r6) (v := .int (σ5.1 15 r6 0)) hx hb hts iw_X4_deliver_X1 hown hK hP (in32 hC (a := 15) (by decide) hr7) rfl rfl 0 (by decide) (hts (.fieldLink RX4 85 "PageOwners$Letter" "kind" "I") (by decide +kernel)) (fun _ h9 => h9) rfl dX4_deliver_75 ?_
        refine lv_aload_n hx hb dX4_deliver_78 rfl (lv_at hl 1 rfl) ?_
        refine x_get (C := RX1) (T := TX1) (N := 7) (ci := 1) (a := 15) (k := r6) (v := .int (σ5.1 15 r6 3)) hx hb hts iw_X4_deliver_X1 hown hK hP (in32 hC (a := 15) (by decide) hr7) rfl rfl 3 (by decide) (hts (.fieldLink RX4 88 "PageOwners$Letter" "page" "I") (by decide +kernel)) (fun _ h9 => h9) rfl dX4_deliver_79 ?_
        refine lv_aload_n hx hb dX4_deliver_82 rfl (lv_at hl 1 rfl) ?_
        refine x_get (C := RX1) (T := TX1) (N := 7) (ci := 1) (a := 15) (k := r6) (v := .int (σ5.1 15 r6 4)) hx hb hts iw_X4_deliver_X1 hown hK hP (in32 hC (a := 15) (by decide) hr7) rfl rfl 4 (by decide) (hts (.fieldLink RX4 91 "PageOwners$Letter" "asker" "I") (by decide +kernel)) (fun _ h9 => h9) rfl dX4_deliver_83 ?_
        refine x_cVv (C := RX4) (As := [.ref (ad (5, (ix (σ5.1 15 r6 2)))), .int (σ5.1 15 r6 0), .int (σ5.1 15 r6 3), .int (σ5.1 15 r6 4)]) (rest := []) ⟨hx, hb, hml, hown, hts⟩ hK hP hS (c_X4_askingComes l hAd hC σ5 (ix (σ5.1 15 r6 2)) (ix_lt hin8) (σ5.1 15 r6 0) (σ5.1 15 r6 3) (σ5.1 15 r6 4) _ h) (cwV 4 hts gX4_deliver_X4_askingComes rfl rfl rfl (by decide +kernel) ⟨Nat.le_of_ble_eq_true rfl, Nat.le_of_ble_eq_true rfl⟩) (x_recv hK hP (in1 hC (a := 0) (by decide) (by decide)) rfl rfl) rfl hl.1 rfl (Nat.le_of_ble_eq_true rfl) dX4_deliver_86 ⟨Nat.zero_le _, Nat.zero_le _⟩ (fun σ14 H locs h hP hS => ?_)
        refine lv_goto (tgt := 149) hx hb dX4_deliver_89 (by decide) ?_
        refine lv_aload_n hx hb dX4_deliver_149 rfl (lv_at hl 1 rfl) ?_
        refine x_get (C := RX1) (T := TX1) (N := 7) (ci := 1) (a := 15) (k := r6) (v := .int (σ14.1 15 r6 0)) hx hb hts iw_X4_deliver_X1 hown hK hP (in32 hC (a := 15) (by decide) hr7) rfl rfl 0 (by decide) (hts (.fieldLink RX4 85 "PageOwners$Letter" "kind" "I") (by decide +kernel)) (fun _ h9 => h9) rfl dX4_deliver_150 ?_
        exact W.iret (v := (σ14.1 15 r6 0)) hx hb hr (fun t ht hW => ⟨⟨(σ14.1 15 r6 0), σ14, rfl, h, by rw [ht]; exact hP, va_K.moved hW.alike hK⟩, hS.F ht⟩) hS.2.2 dX4_deliver_153
      · have h := h.2 c13
        by_cases c17 : (σ5.1 15 r6 0) = 3
        · have h := h.1 c17
          refine lv_tableIn (off := 56) (tgt := 92) hx hb dX4_deliver_36 (by rw [c17]; decide) (by rw [c17]; decide) (by rw [c17]; decide +kernel) (by decide) ?_
          refine lv_aload_n hx hb dX4_deliver_92 rfl (lv_at hl 2 rfl) ?_
          refine lv_aload_n hx hb dX4_deliver_93 rfl (lv_at hl 0 rfl) ?_
          refine lv_aload_n hx hb dX4_deliver_94 rfl (lv_at hl 1 rfl) ?_
          refine x_cVv (C := RX4) (As := [.ref (ad (5, (ix (σ5.1 15 r6 2)))), .ref (ad (15, r6))]) (rest := []) ⟨hx, hb, hml, hown, hts⟩ hK hP hS (c_X4_givenToRead l hAd hC σ5 (ix (σ5.1 15 r6 2)) (ix_lt hin8) r6 hr7 _ h) (cwV 2 hts gX4_deliver_X4_givenToRead rfl rfl rfl (by decide +kernel) ⟨Nat.le_of_ble_eq_true rfl, Nat.le_of_ble_eq_true rfl⟩) (x_recv hK hP (in1 hC (a := 0) (by decide) (by decide)) rfl rfl) rfl hl.1 rfl (Nat.le_of_ble_eq_true rfl) dX4_deliver_95 ⟨Nat.zero_le _, Nat.zero_le _⟩ (fun σ18 H locs h hP hS => ?_)
          refine lv_goto (tgt := 149) hx hb dX4_deliver_98 (by decide) ?_
          refine lv_aload_n hx hb dX4_deliver_149 rfl (lv_at hl 1 rfl) ?_
          refine x_get (C := RX1) (T := TX1) (N := 7) (ci := 1) (a := 15) (k := r6) (v := .int (σ18.1 15 r6 0)) hx hb hts iw_X4_deliver_X1 hown hK hP (in32 hC (a := 15) (by decide) hr7) rfl rfl 0 (by decide) (hts (.fieldLink RX4 85 "PageOwners$Letter" "kind" "I") (by decide +kernel)) (fun _ h9 => h9) rfl dX4_deliver_150 ?_
          exact W.iret (v := (σ18.1 15 r6 0)) hx hb hr (fun t ht hW => ⟨⟨(σ18.1 15 r6 0), σ18, rfl, h, by rw [ht]; exact hP, va_K.moved hW.alike hK⟩, hS.F ht⟩) hS.2.2 dX4_deliver_153
        · have h := h.2 c17
          by_cases c21 : (σ5.1 15 r6 0) = 4
          · have h := h.1 c21
            refine lv_tableIn (off := 65) (tgt := 101) hx hb dX4_deliver_36 (by rw [c21]; decide) (by rw [c21]; decide) (by rw [c21]; decide +kernel) (by decide) ?_
            refine lv_aload_n hx hb dX4_deliver_101 rfl (lv_at hl 2 rfl) ?_
            refine lv_aload_n hx hb dX4_deliver_102 rfl (lv_at hl 0 rfl) ?_
            refine lv_aload_n hx hb dX4_deliver_103 rfl (lv_at hl 1 rfl) ?_
            refine x_cVv (C := RX4) (As := [.ref (ad (5, (ix (σ5.1 15 r6 2)))), .ref (ad (15, r6))]) (rest := []) ⟨hx, hb, hml, hown, hts⟩ hK hP hS (c_X4_givenToWrite l hAd hC σ5 (ix (σ5.1 15 r6 2)) (ix_lt hin8) r6 hr7 _ h) (cwV 2 hts gX4_deliver_X4_givenToWrite rfl rfl rfl (by decide +kernel) ⟨Nat.le_of_ble_eq_true rfl, Nat.le_of_ble_eq_true rfl⟩) (x_recv hK hP (in1 hC (a := 0) (by decide) (by decide)) rfl rfl) rfl hl.1 rfl (Nat.le_of_ble_eq_true rfl) dX4_deliver_104 ⟨Nat.zero_le _, Nat.zero_le _⟩ (fun σ22 H locs h hP hS => ?_)
            refine lv_aload_n hx hb dX4_deliver_107 rfl (lv_at hl 2 rfl) ?_
            refine lv_aload_n hx hb dX4_deliver_108 rfl (lv_at hl 0 rfl) ?_
            refine x_cVv (C := RX4) (As := [.ref (ad (5, (ix (σ5.1 15 r6 2))))]) (rest := []) ⟨hx, hb, hml, hown, hts⟩ hK hP hS (c_X4_finishIfAllAnswered l hAd hC σ22 (ix (σ5.1 15 r6 2)) (ix_lt hin8) _ h) (cwV 1 hts gX4_deliver_X4_finishIfAllAnswered rfl rfl rfl (by decide +kernel) ⟨Nat.le_of_ble_eq_true rfl, Nat.le_of_ble_eq_true rfl⟩) (x_recv hK hP (in1 hC (a := 0) (by decide) (by decide)) rfl rfl) rfl hl.1 rfl (Nat.le_of_ble_eq_true rfl) dX4_deliver_109 ⟨Nat.zero_le _, Nat.zero_le _⟩ (fun σ25 H locs h hP hS => ?_)
            refine lv_goto (tgt := 149) hx hb dX4_deliver_112 (by decide) ?_
            refine lv_aload_n hx hb dX4_deliver_149 rfl (lv_at hl 1 rfl) ?_
            refine x_get (C := RX1) (T := TX1) (N := 7) (ci := 1) (a := 15) (k := r6) (v := .int (σ25.1 15 r6 0)) hx hb hts iw_X4_deliver_X1 hown hK hP (in32 hC (a := 15) (by decide) hr7) rfl rfl 0 (by decide) (hts (.fieldLink RX4 85 "PageOwners$Letter" "kind" "I") (by decide +kernel)) (fun _ h9 => h9) rfl dX4_deliver_150 ?_
            exact W.iret (v := (σ25.1 15 r6 0)) hx hb hr (fun t ht hW => ⟨⟨(σ25.1 15 r6 0), σ25, rfl, h, by rw [ht]; exact hP, va_K.moved hW.alike hK⟩, hS.F ht⟩) hS.2.2 dX4_deliver_153
          · have h := h.2 c21
            by_cases c28 : (σ5.1 15 r6 0) = 5
            · have h := h.1 c28
              refine lv_tableIn (off := 79) (tgt := 115) hx hb dX4_deliver_36 (by rw [c28]; decide) (by rw [c28]; decide) (by rw [c28]; decide +kernel) (by decide) ?_
              refine lv_aload_n hx hb dX4_deliver_115 rfl (lv_at hl 2 rfl) ?_
              refine lv_aload_n hx hb dX4_deliver_116 rfl (lv_at hl 0 rfl) ?_
              refine lv_aload_n hx hb dX4_deliver_117 rfl (lv_at hl 1 rfl) ?_
              refine x_get (C := RX1) (T := TX1) (N := 7) (ci := 1) (a := 15) (k := r6) (v := .int (σ5.1 15 r6 3)) hx hb hts iw_X4_deliver_X1 hown hK hP (in32 hC (a := 15) (by decide) hr7) rfl rfl 3 (by decide) (hts (.fieldLink RX4 88 "PageOwners$Letter" "page" "I") (by decide +kernel)) (fun _ h9 => h9) rfl dX4_deliver_118 ?_
              refine lv_aload_n hx hb dX4_deliver_121 rfl (lv_at hl 1 rfl) ?_
              refine x_get (C := RX1) (T := TX1) (N := 7) (ci := 1) (a := 15) (k := r6) (v := .int (σ5.1 15 r6 1)) hx hb hts iw_X4_deliver_X1 hown hK hP (in32 hC (a := 15) (by decide) hr7) rfl rfl 1 (by decide) (hts (.fieldLink RX4 105 "PageOwners$Letter" "from" "I") (by decide +kernel)) (fun _ h9 => h9) rfl dX4_deliver_122 ?_
              refine x_cVv (C := RX4) (As := [.ref (ad (5, (ix (σ5.1 15 r6 2)))), .int (σ5.1 15 r6 3), .int (σ5.1 15 r6 1)]) (rest := []) ⟨hx, hb, hml, hown, hts⟩ hK hP hS (c_X4_calledBack l hAd hC σ5 (ix (σ5.1 15 r6 2)) (ix_lt hin8) (σ5.1 15 r6 3) (σ5.1 15 r6 1) _ h) (cwV 3 hts gX4_deliver_X4_calledBack rfl rfl rfl (by decide +kernel) ⟨Nat.le_of_ble_eq_true rfl, Nat.le_of_ble_eq_true rfl⟩) (x_recv hK hP (in1 hC (a := 0) (by decide) (by decide)) rfl rfl) rfl hl.1 rfl (Nat.le_of_ble_eq_true rfl) dX4_deliver_125 ⟨Nat.zero_le _, Nat.zero_le _⟩ (fun σ29 H locs h hP hS => ?_)
              refine lv_goto (tgt := 149) hx hb dX4_deliver_128 (by decide) ?_
              refine lv_aload_n hx hb dX4_deliver_149 rfl (lv_at hl 1 rfl) ?_
              refine x_get (C := RX1) (T := TX1) (N := 7) (ci := 1) (a := 15) (k := r6) (v := .int (σ29.1 15 r6 0)) hx hb hts iw_X4_deliver_X1 hown hK hP (in32 hC (a := 15) (by decide) hr7) rfl rfl 0 (by decide) (hts (.fieldLink RX4 85 "PageOwners$Letter" "kind" "I") (by decide +kernel)) (fun _ h9 => h9) rfl dX4_deliver_150 ?_
              exact W.iret (v := (σ29.1 15 r6 0)) hx hb hr (fun t ht hW => ⟨⟨(σ29.1 15 r6 0), σ29, rfl, h, by rw [ht]; exact hP, va_K.moved hW.alike hK⟩, hS.F ht⟩) hS.2.2 dX4_deliver_153
            · have h := h.2 c28
              have n37 : (σ5.1 15 r6 0).toInt < 1 ∨ 5 < (σ5.1 15 r6 0).toInt := by
                have := lv_neT (k := 1) (a := 1) c9 rfl
                have := lv_neT (k := 2) (a := 2) c13 rfl
                have := lv_neT (k := 3) (a := 3) c17 rfl
                have := lv_neT (k := 4) (a := 4) c21 rfl
                have := lv_neT (k := 5) (a := 5) c28 rfl
                omega
              refine lv_tableOut (tgt := 131) hx hb dX4_deliver_36 n37 (by decide) ?_
              refine lv_aload_n hx hb dX4_deliver_131 rfl (lv_at hl 0 rfl) ?_
              refine x_get (C := RX3) (T := TX3) (N := 10) (ci := 3) (a := 5) (k := (ix (σ5.1 15 r6 2))) (v := .ref (ad (6, (ix (σ5.1 15 r6 2))))) hx hb hts iw_X4_deliver_X3 hown hK hP (in6 hC (a := 5) (by decide) (ix_lt hin8)) rfl rfl 1 (by decide) (hts (.fieldLink RX4 36 "PageOwners$Node" "hand" "LPageOwners$Hand;") (by decide +kernel)) (fun _ h9 => h9) rfl dX4_deliver_132 ?_
              refine lv_dup hx hb dX4_deliver_135 rfl ?_
              refine x_get (C := RX0) (T := TX0) (N := 10) (ci := 0) (a := 6) (k := (ix (σ5.1 15 r6 2))) (v := .int (σ5.1 6 (ix (σ5.1 15 r6 2)) 6)) hx hb hts iw_X4_deliver_X0 hown hK hP (in6 hC (a := 6) (by decide) (ix_lt hin8)) rfl rfl 6 (by decide) (hts (.fieldLink RX4 111 "PageOwners$Hand" "answersDue" "I") (by decide +kernel)) (fun _ h9 => h9) rfl dX4_deliver_136 ?_
              refine lv_iconst (v := 1) hx hb dX4_deliver_139 (by decide) ?_
              refine lv_isub hx hb dX4_deliver_140 ?_
              refine x_puti (C := RX0) (T := TX0) (N := 10) (ci := 0) (a := 6) (k := (ix (σ5.1 15 r6 2))) (v := ((σ5.1 6 (ix (σ5.1 15 r6 2)) 6) - 1)) (ty := .int) hx hb hts iw_X4_deliver_X0 tyX0 tyX0_ok nmX0 hown hK hP hAd hS (in6 hC (a := 6) (by decide) (ix_lt hin8)) rfl rfl 6 (by decide) (hts (.fieldLink RX4 111 "PageOwners$Hand" "answersDue" "I") (by decide +kernel)) (fun _ h9 => h9) rfl (by decide +kernel) rfl rfl (Nat.le_of_ble_eq_true rfl) rfl dX4_deliver_141 (fun H locs hP hS => ?_)
              obtain ⟨σ32, e33⟩ : ∃ z, z = sI σ5 6 (ix (σ5.1 15 r6 2)) 6 ((σ5.1 6 (ix (σ5.1 15 r6 2)) 6) - 1) := ⟨_, rfl⟩
              rw [← e33] at hP
              have h := h σ32 e33
              refine lv_aload_n hx hb dX4_deliver_144 rfl (lv_at hl 2 rfl) ?_
              refine lv_aload_n hx hb dX4_deliver_145 rfl (lv_at hl 0 rfl) ?_
              refine x_cVv (C := RX4) (As := [.ref (ad (5, (ix (σ5.1 15 r6 2))))]) (rest := []) ⟨hx, hb, hml, hown, hts⟩ hK hP hS (c_X4_finishIfAllAnswered l hAd hC σ32 (ix (σ5.1 15 r6 2)) (ix_lt hin8) _ h) (cwV 1 hts gX4_deliver_X4_finishIfAllAnswered rfl rfl rfl (by decide +kernel) ⟨Nat.le_of_ble_eq_true rfl, Nat.le_of_ble_eq_true rfl⟩) (x_recv hK hP (in1 hC (a := 0) (by decide) (by decide)) rfl rfl) rfl hl.1 rfl (Nat.le_of_ble_eq_true rfl) dX4_deliver_146 ⟨Nat.zero_le _, Nat.zero_le _⟩ (fun σ34 H locs h hP hS => ?_)
              refine lv_aload_n hx hb dX4_deliver_149 rfl (lv_at hl 1 rfl) ?_
              refine x_get (C := RX1) (T := TX1) (N := 7) (ci := 1) (a := 15) (k := r6) (v := .int (σ34.1 15 r6 0)) hx hb hts iw_X4_deliver_X1 hown hK hP (in32 hC (a := 15) (by decide) hr7) rfl rfl 0 (by decide) (hts (.fieldLink RX4 85 "PageOwners$Letter" "kind" "I") (by decide +kernel)) (fun _ h9 => h9) rfl dX4_deliver_150 ?_
              exact W.iret (v := (σ34.1 15 r6 0)) hx hb hr (fun t ht hW => ⟨⟨(σ34.1 15 r6 0), σ34, rfl, h, by rw [ht]; exact hP, va_K.moved hW.alike hK⟩, hS.F ht⟩) hS.2.2 dX4_deliver_153
  · have h := h.1 c4
    refine lv_iconst (v := (-1)) hx hb dX4_deliver_11 (by decide) ?_
    exact W.iret (v := (-1)) hx hb hr (fun t ht hW => ⟨⟨(-1), σ1, rfl, h, by rw [ht]; exact hP, va_K.moved hW.alike hK⟩, hS.F ht⟩) hS.2.2 dX4_deliver_12
theorem iw_X4_waits_X0 : ∀ w ∈ wsX00, w ∈ wsX4_waits := fun _ h => List.mem_cons_of_mem _ (List.mem_append_right _ h)
theorem iw_X4_waits_X3 : ∀ w ∈ wsX30, w ∈ wsX4_waits := fun _ h => List.mem_cons_of_mem _ (List.mem_append_left _ (List.mem_append_right _ h))
theorem iw_X4_waits_X4 : ∀ w ∈ wsX40, w ∈ wsX4_waits := fun _ h => List.mem_cons_of_mem _ (List.mem_append_left _ (List.mem_append_left _ (List.mem_append_right _ h)))
def wp_X4_waits (σ : Sg) (x1 : Int32) (Q : Sg → Int32 → Prop) : Prop := (wp_X4_isNode σ x1 (fun σ1 r2 => ((r2 = 0 → Q σ1 (-1)) ∧ (¬ (r2 = 0) → (vp_in x1 6 ∧ Q σ1 (σ1.1 6 (ix x1) 1))))))
abbrev rm_X4_waits : Room := { frames := 1, cells := 0, slots := 0, locals := 21 }
set_option maxHeartbeats 4000000 in
set_option maxRecDepth 100000 in
theorem c_X4_waits (l : Launch) {D : va_G} {P : List (Nat × Nat)} {ad : Nat × Nat → Nat} {cy : Nat → ClassId} (hAd : AdOk P ad) (hC : InC P) (σ : Sg) (x1 : Int32) (Q : Sg → Int32 → Prop) (h : wp_X4_waits σ x1 Q) : Met l yX4_waits wsX4_waits rm_X4_waits (xPc D P ad cy σ [.ref (ad (0, 0)), .int x1]) (va_Qi (fun r σ' => Q σ' r) (xB D P ad cy) (Aof P ad)) 0 0 (Aof P ad) := by
  refine Met.ofW (cc := cX4_waits) (maxL := 2) (ret := (some .int)) (by decide +kernel) rfl ?_
  intro p e s m args below meth c s₁ B hml hv
  obtain ⟨rfl, hP, hK⟩ := hv
  have hx := B.exec
  have hb := B.bytes
  have hr := B.returns
  have hts := atoms_spec (ws := wsX4_waits) B.pre
  have hown : s.vm.findClass RX4 = some m.cls := findClass_of_methodNamed B.named
  have hlocks := B.notSynchronized
  have hS : va_S (Aof P ad) s.heap s.heap [] := va_S.rf
  have hl := lv_entry ([.ref (ad (0, 0)), .int x1] : List Value) (n := 2) (Nat.le_of_ble_eq_true rfl)
  rw [lg_entry_eq]
  generalize (lg_sl ([.ref (ad (0, 0)), .int x1] : List Value) ++ List.replicate (2 - (lg_sl ([.ref (ad (0, 0)), .int x1] : List Value)).length) Slot.unset).toArray = ls at hl ⊢
  have hl : lv_has ls 2 [(0, .ref (ad (0, 0))), (1, .int x1)] := hl
  unfold wp_X4_waits at h
  refine lv_aload_n hx hb dX4_waits_0 rfl (lv_at hl 0 rfl) ?_
  refine lv_iload_n hx hb dX4_waits_1 rfl (lv_at hl 1 rfl) ?_
  refine x_cVi (C := RX4) (As := [.int x1]) (rest := []) ⟨hx, hb, hml, hown, hts⟩ hK hP hS (c_X4_isNode l hAd hC σ x1 _ h) (cwV 1 hts gX4_waits_X4_isNode rfl rfl rfl (by decide +kernel) ⟨Nat.le_of_ble_eq_true rfl, Nat.le_of_ble_eq_true rfl⟩) (x_recv hK hP (in1 hC (a := 0) (by decide) (by decide)) rfl rfl) rfl hl.1 rfl (Nat.le_of_ble_eq_true rfl) dX4_waits_2 ⟨Nat.zero_le _, Nat.zero_le _⟩ (fun r2 σ1 H locs h hP hS => ?_)
  refine lv_if_eq (tgt := 23) hx hb dX4_waits_5 (by decide) (fun c4 => ?_) (fun c4 => ?_)
  · have h := h.1 c4
    refine lv_iconst (v := (-1)) hx hb dX4_waits_23 (by decide) ?_
    exact W.iret (v := (-1)) hx hb hr (fun t ht hW => ⟨⟨(-1), σ1, rfl, h, by rw [ht]; exact hP, va_K.moved hW.alike hK⟩, hS.F ht⟩) hS.2.2 dX4_waits_24
  · have h := h.2 c4
    refine lv_aload_n hx hb dX4_waits_8 rfl (lv_at hl 0 rfl) ?_
    refine x_get (C := RX4) (T := TX4) (N := 4) (ci := 4) (a := 0) (k := 0) (v := .ref (ad (1, 0))) hx hb hts iw_X4_waits_X4 hown hK hP (in1 hC (a := 0) (by decide) (by decide)) rfl rfl 0 (by decide) (hts (.fieldLink RX4 11 "PageOwners" "all" "[LPageOwners$Node;") (by decide +kernel)) (fun _ h9 => h9) rfl dX4_waits_9 ?_
    refine lv_iload_n hx hb dX4_waits_12 rfl (lv_at hl 1 rfl) ?_
    have hin5 := h.1
    have h := h.2
    refine x_aldN hC hx hb hK hP hin5 dX4_waits_13 ?_
    refine x_get (C := RX3) (T := TX3) (N := 10) (ci := 3) (a := 5) (k := (ix x1)) (v := .ref (ad (6, (ix x1)))) hx hb hts iw_X4_waits_X3 hown hK hP (in6 hC (a := 5) (by decide) (ix_lt hin5)) rfl rfl 1 (by decide) (hts (.fieldLink RX4 36 "PageOwners$Node" "hand" "LPageOwners$Hand;") (by decide +kernel)) (fun _ h9 => h9) rfl dX4_waits_14 ?_
    refine x_get (C := RX0) (T := TX0) (N := 10) (ci := 0) (a := 6) (k := (ix x1)) (v := .int (σ1.1 6 (ix x1) 1)) hx hb hts iw_X4_waits_X0 hown hK hP (in6 hC (a := 6) (by decide) (ix_lt hin5)) rfl rfl 1 (by decide) (hts (.fieldLink RX4 117 "PageOwners$Hand" "waitsFor" "I") (by decide +kernel)) (fun _ h9 => h9) rfl dX4_waits_17 ?_
    refine lv_goto (tgt := 24) hx hb dX4_waits_20 (by decide) ?_
    exact W.iret (v := (σ1.1 6 (ix x1) 1)) hx hb hr (fun t ht hW => ⟨⟨(σ1.1 6 (ix x1) 1), σ1, rfl, h, by rw [ht]; exact hP, va_K.moved hW.alike hK⟩, hS.F ht⟩) hS.2.2 dX4_waits_24
theorem iw_X4_at_X0 : ∀ w ∈ wsX00, w ∈ wsX4_at := fun _ h => List.mem_cons_of_mem _ (List.mem_append_right _ h)
theorem iw_X4_at_X3 : ∀ w ∈ wsX30, w ∈ wsX4_at := fun _ h => List.mem_cons_of_mem _ (List.mem_append_left _ (List.mem_append_right _ h))
theorem iw_X4_at_X4 : ∀ w ∈ wsX40, w ∈ wsX4_at := fun _ h => List.mem_cons_of_mem _ (List.mem_append_left _ (List.mem_append_left _ (List.mem_append_right _ h)))
def wp_X4_at (σ : Sg) (x1 : Int32) (x2 : Int32) (Q : Sg → Int32 → Prop) : Prop := (wp_X4_isNode σ x1 (fun σ1 r2 => ((r2 = 0 → Q σ1 (-1)) ∧ (¬ (r2 = 0) → (vp_in x1 6 ∧ ((x2 = 4 → Q σ1 (σ1.1 6 (ix x1) 8)) ∧ (¬ (x2 = 4) → (((σ1.1 6 (ix x1) 0) = 0 → Q σ1 (-1)) ∧ (¬ ((σ1.1 6 (ix x1) 0) = 0) → ((x2 = 0 → Q σ1 (σ1.1 6 (ix x1) 2)) ∧ (¬ (x2 = 0) → ((x2 = 1 → Q σ1 (σ1.1 6 (ix x1) 3)) ∧ (¬ (x2 = 1) → ((x2 = 2 → (((σ1.1 6 (ix x1) 4) = 0 → Q σ1 0) ∧ (¬ ((σ1.1 6 (ix x1) 4) = 0) → Q σ1 1))) ∧ (¬ (x2 = 2) → ((x2 = 3 → Q σ1 (σ1.1 6 (ix x1) 6)) ∧ (¬ (x2 = 3) → Q σ1 (-1))))))))))))))))))
abbrev rm_X4_at : Room := { frames := 1, cells := 0, slots := 0, locals := 21 }
set_option maxHeartbeats 4000000 in
set_option maxRecDepth 100000 in
theorem c_X4_at (l : Launch) {D : va_G} {P : List (Nat × Nat)} {ad : Nat × Nat → Nat} {cy : Nat → ClassId} (hAd : AdOk P ad) (hC : InC P) (σ : Sg) (x1 : Int32) (x2 : Int32) (Q : Sg → Int32 → Prop) (h : wp_X4_at σ x1 x2 Q) : Met l yX4_at wsX4_at rm_X4_at (xPc D P ad cy σ [.ref (ad (0, 0)), .int x1, .int x2]) (va_Qi (fun r σ' => Q σ' r) (xB D P ad cy) (Aof P ad)) 0 0 (Aof P ad) := by
  refine Met.ofW (cc := cX4_at) (maxL := 4) (ret := (some .int)) (by decide +kernel) rfl ?_
  intro p e s m args below meth c s₁ B hml hv
  obtain ⟨rfl, hP, hK⟩ := hv
  have hx := B.exec
  have hb := B.bytes
  have hr := B.returns
  have hts := atoms_spec (ws := wsX4_at) B.pre
  have hown : s.vm.findClass RX4 = some m.cls := findClass_of_methodNamed B.named
  have hlocks := B.notSynchronized
  have hS : va_S (Aof P ad) s.heap s.heap [] := va_S.rf
  have hl := lv_entry ([.ref (ad (0, 0)), .int x1, .int x2] : List Value) (n := 4) (Nat.le_of_ble_eq_true rfl)
  rw [lg_entry_eq]
  generalize (lg_sl ([.ref (ad (0, 0)), .int x1, .int x2] : List Value) ++ List.replicate (4 - (lg_sl ([.ref (ad (0, 0)), .int x1, .int x2] : List Value)).length) Slot.unset).toArray = ls at hl ⊢
  have hl : lv_has ls 4 [(0, .ref (ad (0, 0))), (1, .int x1), (2, .int x2)] := hl
  unfold wp_X4_at at h
  refine lv_aload_n hx hb dX4_at_0 rfl (lv_at hl 0 rfl) ?_
  refine lv_iload_n hx hb dX4_at_1 rfl (lv_at hl 1 rfl) ?_
  refine x_cVi (C := RX4) (As := [.int x1]) (rest := []) ⟨hx, hb, hml, hown, hts⟩ hK hP hS (c_X4_isNode l hAd hC σ x1 _ h) (cwV 1 hts gX4_at_X4_isNode rfl rfl rfl (by decide +kernel) ⟨Nat.le_of_ble_eq_true rfl, Nat.le_of_ble_eq_true rfl⟩) (x_recv hK hP (in1 hC (a := 0) (by decide) (by decide)) rfl rfl) rfl hl.1 rfl (Nat.le_of_ble_eq_true rfl) dX4_at_2 ⟨Nat.zero_le _, Nat.zero_le _⟩ (fun r2 σ1 H locs h hP hS => ?_)
  refine lv_if_ne (tgt := 10) hx hb dX4_at_5 (by decide) (fun c4 => ?_) (fun c4 => ?_)
  · have h := h.2 c4
    refine lv_aload_n hx hb dX4_at_10 rfl (lv_at hl 0 rfl) ?_
    refine x_get (C := RX4) (T := TX4) (N := 4) (ci := 4) (a := 0) (k := 0) (v := .ref (ad (1, 0))) hx hb hts iw_X4_at_X4 hown hK hP (in1 hC (a := 0) (by decide) (by decide)) rfl rfl 0 (by decide) (hts (.fieldLink RX4 11 "PageOwners" "all" "[LPageOwners$Node;") (by decide +kernel)) (fun _ h9 => h9) rfl dX4_at_11 ?_
    refine lv_iload_n hx hb dX4_at_14 rfl (lv_at hl 1 rfl) ?_
    have hin5 := h.1
    have h := h.2
    refine x_aldN hC hx hb hK hP hin5 dX4_at_15 ?_
    refine x_get (C := RX3) (T := TX3) (N := 10) (ci := 3) (a := 5) (k := (ix x1)) (v := .ref (ad (6, (ix x1)))) hx hb hts iw_X4_at_X3 hown hK hP (in6 hC (a := 5) (by decide) (ix_lt hin5)) rfl rfl 1 (by decide) (hts (.fieldLink RX4 36 "PageOwners$Node" "hand" "LPageOwners$Hand;") (by decide +kernel)) (fun _ h9 => h9) rfl dX4_at_16 ?_
    refine lv_astore_n (lv' := [(3, .ref (ad (6, (ix x1)))), (0, .ref (ad (0, 0))), (1, .int x1), (2, .int x2)]) hx hb dX4_at_19 rfl hl (by decide) rfl (fun ls hl => ?_)
    refine lv_iload_n hx hb dX4_at_20 rfl (lv_at hl 3 rfl) ?_
    refine lv_iconst (v := 4) hx hb dX4_at_21 (by decide) ?_
    refine lv_icmp_ne (tgt := 30) hx hb dX4_at_22 (by decide) (fun c6 => ?_) (fun c6 => ?_)
    · have h := h.2 c6
      refine lv_aload_n hx hb dX4_at_30 rfl (lv_at hl 0 rfl) ?_
      refine x_get (C := RX0) (T := TX0) (N := 10) (ci := 0) (a := 6) (k := (ix x1)) (v := .int (σ1.1 6 (ix x1) 0)) hx hb hts iw_X4_at_X0 hown hK hP (in6 hC (a := 6) (by decide) (ix_lt hin5)) rfl rfl 0 (by decide) (hts (.fieldLink RX4 123 "PageOwners$Hand" "everHadOne" "Z") (by decide +kernel)) (fun _ h9 => h9) rfl dX4_at_31 ?_
      refine lv_if_ne (tgt := 39) hx hb dX4_at_34 (by decide) (fun c7 => ?_) (fun c7 => ?_)
      · have h := h.2 c7
        refine lv_iload_n hx hb dX4_at_39 rfl (lv_at hl 3 rfl) ?_
        by_cases c8 : x2 = 0
        · have h := h.1 c8
          refine lv_tableIn (off := 32) (tgt := 72) hx hb dX4_at_40 (by rw [c8]; decide) (by rw [c8]; decide) (by rw [c8]; decide +kernel) (by decide) ?_
          refine lv_aload_n hx hb dX4_at_72 rfl (lv_at hl 0 rfl) ?_
          refine x_get (C := RX0) (T := TX0) (N := 10) (ci := 0) (a := 6) (k := (ix x1)) (v := .int (σ1.1 6 (ix x1) 2)) hx hb hts iw_X4_at_X0 hown hK hP (in6 hC (a := 6) (by decide) (ix_lt hin5)) rfl rfl 2 (by decide) (hts (.fieldLink RX4 127 "PageOwners$Hand" "page" "I") (by decide +kernel)) (fun _ h9 => h9) rfl dX4_at_73 ?_
          exact W.iret (v := (σ1.1 6 (ix x1) 2)) hx hb hr (fun t ht hW => ⟨⟨(σ1.1 6 (ix x1) 2), σ1, rfl, h, by rw [ht]; exact hP, va_K.moved hW.alike hK⟩, hS.F ht⟩) hS.2.2 dX4_at_76
        · have h := h.2 c8
          by_cases c9 : x2 = 1
          · have h := h.1 c9
            refine lv_tableIn (off := 37) (tgt := 77) hx hb dX4_at_40 (by rw [c9]; decide) (by rw [c9]; decide) (by rw [c9]; decide +kernel) (by decide) ?_
            refine lv_aload_n hx hb dX4_at_77 rfl (lv_at hl 0 rfl) ?_
            refine x_get (C := RX0) (T := TX0) (N := 10) (ci := 0) (a := 6) (k := (ix x1)) (v := .int (σ1.1 6 (ix x1) 3)) hx hb hts iw_X4_at_X0 hown hK hP (in6 hC (a := 6) (by decide) (ix_lt hin5)) rfl rfl 3 (by decide) (hts (.fieldLink RX4 128 "PageOwners$Hand" "word" "I") (by decide +kernel)) (fun _ h9 => h9) rfl dX4_at_78 ?_
            exact W.iret (v := (σ1.1 6 (ix x1) 3)) hx hb hr (fun t ht hW => ⟨⟨(σ1.1 6 (ix x1) 3), σ1, rfl, h, by rw [ht]; exact hP, va_K.moved hW.alike hK⟩, hS.F ht⟩) hS.2.2 dX4_at_81
          · have h := h.2 c9
            by_cases c10 : x2 = 2
            · have h := h.1 c10
              refine lv_tableIn (off := 42) (tgt := 82) hx hb dX4_at_40 (by rw [c10]; decide) (by rw [c10]; decide) (by rw [c10]; decide +kernel) (by decide) ?_
              refine lv_aload_n hx hb dX4_at_82 rfl (lv_at hl 0 rfl) ?_
              refine x_get (C := RX0) (T := TX0) (N := 10) (ci := 0) (a := 6) (k := (ix x1)) (v := .int (σ1.1 6 (ix x1) 4)) hx hb hts iw_X4_at_X0 hown hK hP (in6 hC (a := 6) (by decide) (ix_lt hin5)) rfl rfl 4 (by decide) (hts (.fieldLink RX4 131 "PageOwners$Hand" "isWrite" "Z") (by decide +kernel)) (fun _ h9 => h9) rfl dX4_at_83 ?_
              refine lv_if_eq (tgt := 93) hx hb dX4_at_86 (by decide) (fun c11 => ?_) (fun c11 => ?_)
              · have h := h.1 c11
                refine lv_iconst (v := 0) hx hb dX4_at_93 (by decide) ?_
                exact W.iret (v := 0) hx hb hr (fun t ht hW => ⟨⟨0, σ1, rfl, h, by rw [ht]; exact hP, va_K.moved hW.alike hK⟩, hS.F ht⟩) hS.2.2 dX4_at_94
              · have h := h.2 c11
                refine lv_iconst (v := 1) hx hb dX4_at_89 (by decide) ?_
                refine lv_goto (tgt := 94) hx hb dX4_at_90 (by decide) ?_
                exact W.iret (v := 1) hx hb hr (fun t ht hW => ⟨⟨1, σ1, rfl, h, by rw [ht]; exact hP, va_K.moved hW.alike hK⟩, hS.F ht⟩) hS.2.2 dX4_at_94
            · have h := h.2 c10
              by_cases c12 : x2 = 3
              · have h := h.1 c12
                refine lv_tableIn (off := 55) (tgt := 95) hx hb dX4_at_40 (by rw [c12]; decide) (by rw [c12]; decide) (by rw [c12]; decide +kernel) (by decide) ?_
                refine lv_aload_n hx hb dX4_at_95 rfl (lv_at hl 0 rfl) ?_
                refine x_get (C := RX0) (T := TX0) (N := 10) (ci := 0) (a := 6) (k := (ix x1)) (v := .int (σ1.1 6 (ix x1) 6)) hx hb hts iw_X4_at_X0 hown hK hP (in6 hC (a := 6) (by decide) (ix_lt hin5)) rfl rfl 6 (by decide) (hts (.fieldLink RX4 111 "PageOwners$Hand" "answersDue" "I") (by decide +kernel)) (fun _ h9 => h9) rfl dX4_at_96 ?_
                exact W.iret (v := (σ1.1 6 (ix x1) 6)) hx hb hr (fun t ht hW => ⟨⟨(σ1.1 6 (ix x1) 6), σ1, rfl, h, by rw [ht]; exact hP, va_K.moved hW.alike hK⟩, hS.F ht⟩) hS.2.2 dX4_at_99
              · have h := h.2 c12
                have n13 : x2.toInt < 0 ∨ 3 < x2.toInt := by
                  have := lv_neT (k := 0) (a := 0) c8 rfl
                  have := lv_neT (k := 1) (a := 1) c9 rfl
                  have := lv_neT (k := 2) (a := 2) c10 rfl
                  have := lv_neT (k := 3) (a := 3) c12 rfl
                  omega
                refine lv_tableOut (tgt := 100) hx hb dX4_at_40 n13 (by decide) ?_
                refine lv_iconst (v := (-1)) hx hb dX4_at_100 (by decide) ?_
                exact W.iret (v := (-1)) hx hb hr (fun t ht hW => ⟨⟨(-1), σ1, rfl, h, by rw [ht]; exact hP, va_K.moved hW.alike hK⟩, hS.F ht⟩) hS.2.2 dX4_at_101
      · have h := h.1 c7
        refine lv_iconst (v := (-1)) hx hb dX4_at_37 (by decide) ?_
        exact W.iret (v := (-1)) hx hb hr (fun t ht hW => ⟨⟨(-1), σ1, rfl, h, by rw [ht]; exact hP, va_K.moved hW.alike hK⟩, hS.F ht⟩) hS.2.2 dX4_at_38
    · have h := h.1 c6
      refine lv_aload_n hx hb dX4_at_25 rfl (lv_at hl 0 rfl) ?_
      refine x_get (C := RX0) (T := TX0) (N := 10) (ci := 0) (a := 6) (k := (ix x1)) (v := .int (σ1.1 6 (ix x1) 8)) hx hb hts iw_X4_at_X0 hown hK hP (in6 hC (a := 6) (by decide) (ix_lt hin5)) rfl rfl 8 (by decide) (hts (.fieldLink RX4 120 "PageOwners$Hand" "done" "I") (by decide +kernel)) (fun _ h9 => h9) rfl dX4_at_26 ?_
      exact W.iret (v := (σ1.1 6 (ix x1) 8)) hx hb hr (fun t ht hW => ⟨⟨(σ1.1 6 (ix x1) 8), σ1, rfl, h, by rw [ht]; exact hP, va_K.moved hW.alike hK⟩, hS.F ht⟩) hS.2.2 dX4_at_29
  · have h := h.1 c4
    refine lv_iconst (v := (-1)) hx hb dX4_at_8 (by decide) ?_
    exact W.iret (v := (-1)) hx hb hr (fun t ht hW => ⟨⟨(-1), σ1, rfl, h, by rw [ht]; exact hP, va_K.moved hW.alike hK⟩, hS.F ht⟩) hS.2.2 dX4_at_9
theorem iw_X4_result_X0 : ∀ w ∈ wsX00, w ∈ wsX4_result := fun _ h => List.mem_cons_of_mem _ (List.mem_append_right _ h)
theorem iw_X4_result_X3 : ∀ w ∈ wsX30, w ∈ wsX4_result := fun _ h => List.mem_cons_of_mem _ (List.mem_append_left _ (List.mem_append_right _ h))
theorem iw_X4_result_X4 : ∀ w ∈ wsX40, w ∈ wsX4_result := fun _ h => List.mem_cons_of_mem _ (List.mem_append_left _ (List.mem_append_left _ (List.mem_append_right _ h)))
def wp_X4_result (σ : Sg) (x1 : Int32) (Q : Sg → Int64 → Prop) : Prop := (wp_X4_isNode σ x1 (fun σ1 r2 => ((r2 = 0 → Q σ1 0) ∧ (¬ (r2 = 0) → (vp_in x1 6 ∧ Q σ1 (σ1.2.1 6 (ix x1) 9))))))
abbrev rm_X4_result : Room := { frames := 1, cells := 0, slots := 0, locals := 21 }
set_option maxHeartbeats 4000000 in
set_option maxRecDepth 100000 in
theorem c_X4_result (l : Launch) {D : va_G} {P : List (Nat × Nat)} {ad : Nat × Nat → Nat} {cy : Nat → ClassId} (hAd : AdOk P ad) (hC : InC P) (σ : Sg) (x1 : Int32) (Q : Sg → Int64 → Prop) (h : wp_X4_result σ x1 Q) : Met l yX4_result wsX4_result rm_X4_result (xPc D P ad cy σ [.ref (ad (0, 0)), .int x1]) (va_Ql (fun r σ' => Q σ' r) (xB D P ad cy) (Aof P ad)) 0 0 (Aof P ad) := by
  refine Met.ofW (cc := cX4_result) (maxL := 2) (ret := (some .long)) (by decide +kernel) rfl ?_
  intro p e s m args below meth c s₁ B hml hv
  obtain ⟨rfl, hP, hK⟩ := hv
  have hx := B.exec
  have hb := B.bytes
  have hr := B.returns
  have hts := atoms_spec (ws := wsX4_result) B.pre
  have hown : s.vm.findClass RX4 = some m.cls := findClass_of_methodNamed B.named
  have hlocks := B.notSynchronized
  have hS : va_S (Aof P ad) s.heap s.heap [] := va_S.rf
  have hl := lv_entry ([.ref (ad (0, 0)), .int x1] : List Value) (n := 2) (Nat.le_of_ble_eq_true rfl)
  rw [lg_entry_eq]
  generalize (lg_sl ([.ref (ad (0, 0)), .int x1] : List Value) ++ List.replicate (2 - (lg_sl ([.ref (ad (0, 0)), .int x1] : List Value)).length) Slot.unset).toArray = ls at hl ⊢
  have hl : lv_has ls 2 [(0, .ref (ad (0, 0))), (1, .int x1)] := hl
  unfold wp_X4_result at h
  refine lv_aload_n hx hb dX4_result_0 rfl (lv_at hl 0 rfl) ?_
  refine lv_iload_n hx hb dX4_result_1 rfl (lv_at hl 1 rfl) ?_
  refine x_cVi (C := RX4) (As := [.int x1]) (rest := []) ⟨hx, hb, hml, hown, hts⟩ hK hP hS (c_X4_isNode l hAd hC σ x1 _ h) (cwV 1 hts gX4_result_X4_isNode rfl rfl rfl (by decide +kernel) ⟨Nat.le_of_ble_eq_true rfl, Nat.le_of_ble_eq_true rfl⟩) (x_recv hK hP (in1 hC (a := 0) (by decide) (by decide)) rfl rfl) rfl hl.1 rfl (Nat.le_of_ble_eq_true rfl) dX4_result_2 ⟨Nat.zero_le _, Nat.zero_le _⟩ (fun r2 σ1 H locs h hP hS => ?_)
  refine lv_if_eq (tgt := 23) hx hb dX4_result_5 (by decide) (fun c4 => ?_) (fun c4 => ?_)
  · have h := h.1 c4
    refine lv_lconst (v := 0) hx hb dX4_result_23 (by decide) ?_
    exact W.lret (v := 0) hx hb hr (fun t ht hW => ⟨⟨0, σ1, rfl, h, by rw [ht]; exact hP, va_K.moved hW.alike hK⟩, hS.F ht⟩) hS.2.2 dX4_result_24
  · have h := h.2 c4
    refine lv_aload_n hx hb dX4_result_8 rfl (lv_at hl 0 rfl) ?_
    refine x_get (C := RX4) (T := TX4) (N := 4) (ci := 4) (a := 0) (k := 0) (v := .ref (ad (1, 0))) hx hb hts iw_X4_result_X4 hown hK hP (in1 hC (a := 0) (by decide) (by decide)) rfl rfl 0 (by decide) (hts (.fieldLink RX4 11 "PageOwners" "all" "[LPageOwners$Node;") (by decide +kernel)) (fun _ h9 => h9) rfl dX4_result_9 ?_
    refine lv_iload_n hx hb dX4_result_12 rfl (lv_at hl 1 rfl) ?_
    have hin5 := h.1
    have h := h.2
    refine x_aldN hC hx hb hK hP hin5 dX4_result_13 ?_
    refine x_get (C := RX3) (T := TX3) (N := 10) (ci := 3) (a := 5) (k := (ix x1)) (v := .ref (ad (6, (ix x1)))) hx hb hts iw_X4_result_X3 hown hK hP (in6 hC (a := 5) (by decide) (ix_lt hin5)) rfl rfl 1 (by decide) (hts (.fieldLink RX4 36 "PageOwners$Node" "hand" "LPageOwners$Hand;") (by decide +kernel)) (fun _ h9 => h9) rfl dX4_result_14 ?_
    refine x_get (C := RX0) (T := TX0) (N := 10) (ci := 0) (a := 6) (k := (ix x1)) (v := .long (σ1.2.1 6 (ix x1) 9)) hx hb hts iw_X4_result_X0 hown hK hP (in6 hC (a := 6) (by decide) (ix_lt hin5)) rfl rfl 9 (by decide) (hts (.fieldLink RX4 134 "PageOwners$Hand" "result" "J") (by decide +kernel)) (fun _ h9 => h9) rfl dX4_result_17 ?_
    refine lv_goto (tgt := 24) hx hb dX4_result_20 (by decide) ?_
    exact W.lret (v := (σ1.2.1 6 (ix x1) 9)) hx hb hr (fun t ht hW => ⟨⟨(σ1.2.1 6 (ix x1) 9), σ1, rfl, h, by rw [ht]; exact hP, va_K.moved hW.alike hK⟩, hS.F ht⟩) hS.2.2 dX4_result_24
theorem iw_X4_access_X3 : ∀ w ∈ wsX30, w ∈ wsX4_access := fun _ h => List.mem_cons_of_mem _ (List.mem_append_right _ h)
theorem iw_X4_access_X4 : ∀ w ∈ wsX40, w ∈ wsX4_access := fun _ h => List.mem_cons_of_mem _ (List.mem_append_left _ (List.mem_append_right _ h))
def wp_X4_access (σ : Sg) (x1 : Int32) (x2 : Int32) (Q : Sg → Int32 → Prop) : Prop := (wp_X4_isNode σ x1 (fun σ1 r2 => ((r2 = 0 → Q σ1 (-1)) ∧ (¬ (r2 = 0) → (wp_X4_isPage σ1 x2 (fun σ5 r6 => ((r6 = 0 → Q σ5 (-1)) ∧ (¬ (r6 = 0) → (vp_in x1 6 ∧ (vp_in x2 8 ∧ Q σ5 (σ5.1 7 (ix x1) (ix x2))))))))))))
abbrev rm_X4_access : Room := { frames := 1, cells := 0, slots := 0, locals := 21 }
set_option maxHeartbeats 4000000 in
set_option maxRecDepth 100000 in
theorem c_X4_access (l : Launch) {D : va_G} {P : List (Nat × Nat)} {ad : Nat × Nat → Nat} {cy : Nat → ClassId} (hAd : AdOk P ad) (hC : InC P) (σ : Sg) (x1 : Int32) (x2 : Int32) (Q : Sg → Int32 → Prop) (h : wp_X4_access σ x1 x2 Q) : Met l yX4_access wsX4_access rm_X4_access (xPc D P ad cy σ [.ref (ad (0, 0)), .int x1, .int x2]) (va_Qi (fun r σ' => Q σ' r) (xB D P ad cy) (Aof P ad)) 0 0 (Aof P ad) := by
  refine Met.ofW (cc := cX4_access) (maxL := 3) (ret := (some .int)) (by decide +kernel) rfl ?_
  intro p e s m args below meth c s₁ B hml hv
  obtain ⟨rfl, hP, hK⟩ := hv
  have hx := B.exec
  have hb := B.bytes
  have hr := B.returns
  have hts := atoms_spec (ws := wsX4_access) B.pre
  have hown : s.vm.findClass RX4 = some m.cls := findClass_of_methodNamed B.named
  have hlocks := B.notSynchronized
  have hS : va_S (Aof P ad) s.heap s.heap [] := va_S.rf
  have hl := lv_entry ([.ref (ad (0, 0)), .int x1, .int x2] : List Value) (n := 3) (Nat.le_of_ble_eq_true rfl)
  rw [lg_entry_eq]
  generalize (lg_sl ([.ref (ad (0, 0)), .int x1, .int x2] : List Value) ++ List.replicate (3 - (lg_sl ([.ref (ad (0, 0)), .int x1, .int x2] : List Value)).length) Slot.unset).toArray = ls at hl ⊢
  have hl : lv_has ls 3 [(0, .ref (ad (0, 0))), (1, .int x1), (2, .int x2)] := hl
  unfold wp_X4_access at h
  refine lv_aload_n hx hb dX4_access_0 rfl (lv_at hl 0 rfl) ?_
  refine lv_iload_n hx hb dX4_access_1 rfl (lv_at hl 1 rfl) ?_
  refine x_cVi (C := RX4) (As := [.int x1]) (rest := []) ⟨hx, hb, hml, hown, hts⟩ hK hP hS (c_X4_isNode l hAd hC σ x1 _ h) (cwV 1 hts gX4_access_X4_isNode rfl rfl rfl (by decide +kernel) ⟨Nat.le_of_ble_eq_true rfl, Nat.le_of_ble_eq_true rfl⟩) (x_recv hK hP (in1 hC (a := 0) (by decide) (by decide)) rfl rfl) rfl hl.1 rfl (Nat.le_of_ble_eq_true rfl) dX4_access_2 ⟨Nat.zero_le _, Nat.zero_le _⟩ (fun r2 σ1 H locs h hP hS => ?_)
  refine lv_if_eq (tgt := 29) hx hb dX4_access_5 (by decide) (fun c4 => ?_) (fun c4 => ?_)
  · have h := h.1 c4
    refine lv_iconst (v := (-1)) hx hb dX4_access_29 (by decide) ?_
    exact W.iret (v := (-1)) hx hb hr (fun t ht hW => ⟨⟨(-1), σ1, rfl, h, by rw [ht]; exact hP, va_K.moved hW.alike hK⟩, hS.F ht⟩) hS.2.2 dX4_access_30
  · have h := h.2 c4
    refine lv_iload_n hx hb dX4_access_8 rfl (lv_at hl 2 rfl) ?_
    refine x_cSi (As := [.int x2]) (rest := []) ⟨hx, hb, hml, hown, hts⟩ hK hP hS (c_X4_isPage l hAd hC σ1 x2 _ h) (va_cwS 1 hts gX4_access_X4_isPage rfl rfl rfl (by decide +kernel) ⟨Nat.le_of_ble_eq_true rfl, Nat.le_of_ble_eq_true rfl⟩) rfl hl.1 rfl (Nat.le_of_ble_eq_true rfl) dX4_access_9 ⟨Nat.zero_le _, Nat.zero_le _⟩ (fun r6 σ5 H locs h hP hS => ?_)
    refine lv_if_eq (tgt := 29) hx hb dX4_access_12 (by decide) (fun c8 => ?_) (fun c8 => ?_)
    · have h := h.1 c8
      refine lv_iconst (v := (-1)) hx hb dX4_access_29 (by decide) ?_
      exact W.iret (v := (-1)) hx hb hr (fun t ht hW => ⟨⟨(-1), σ5, rfl, h, by rw [ht]; exact hP, va_K.moved hW.alike hK⟩, hS.F ht⟩) hS.2.2 dX4_access_30
    · have h := h.2 c8
      refine lv_aload_n hx hb dX4_access_15 rfl (lv_at hl 0 rfl) ?_
      refine x_get (C := RX4) (T := TX4) (N := 4) (ci := 4) (a := 0) (k := 0) (v := .ref (ad (1, 0))) hx hb hts iw_X4_access_X4 hown hK hP (in1 hC (a := 0) (by decide) (by decide)) rfl rfl 0 (by decide) (hts (.fieldLink RX4 11 "PageOwners" "all" "[LPageOwners$Node;") (by decide +kernel)) (fun _ h9 => h9) rfl dX4_access_16 ?_
      refine lv_iload_n hx hb dX4_access_19 rfl (lv_at hl 1 rfl) ?_
      have hin9 := h.1
      have h := h.2
      refine x_aldN hC hx hb hK hP hin9 dX4_access_20 ?_
      refine x_get (C := RX3) (T := TX3) (N := 10) (ci := 3) (a := 5) (k := (ix x1)) (v := .ref (ad (7, (ix x1)))) hx hb hts iw_X4_access_X3 hown hK hP (in6 hC (a := 5) (by decide) (ix_lt hin9)) rfl rfl 2 (by decide) (hts (.fieldLink RX4 46 "PageOwners$Node" "accessTo" "[I") (by decide +kernel)) (fun _ h9 => h9) rfl dX4_access_21 ?_
      refine lv_iload_n hx hb dX4_access_24 rfl (lv_at hl 2 rfl) ?_
      have hin10 := h.1
      have h := h.2
      refine x_iald (a := 7) (k := (ix x1)) (n := 8) hx hb hK hP (in6 hC (a := 7) (by decide) (ix_lt hin9)) (fun _ => rfl) hin10 dX4_access_25 ?_
      refine lv_goto (tgt := 30) hx hb dX4_access_26 (by decide) ?_
      exact W.iret (v := (σ5.1 7 (ix x1) (ix x2))) hx hb hr (fun t ht hW => ⟨⟨(σ5.1 7 (ix x1) (ix x2)), σ5, rfl, h, by rw [ht]; exact hP, va_K.moved hW.alike hK⟩, hS.F ht⟩) hS.2.2 dX4_access_30
theorem iw_X4_owner_X3 : ∀ w ∈ wsX30, w ∈ wsX4_owner := fun _ h => List.mem_cons_of_mem _ (List.mem_append_right _ h)
theorem iw_X4_owner_X4 : ∀ w ∈ wsX40, w ∈ wsX4_owner := fun _ h => List.mem_cons_of_mem _ (List.mem_append_left _ (List.mem_append_right _ h))
def lp_X4_owner_11 (x1 : Int32) (Q : Sg → Int32 → Prop) : Nat → Sg → Int32 → Prop
  | 0, _, _ => False
  | n + 1, σ, y2 => (((σ.1 0 0 3) ≤ y2 → Q σ (-1)) ∧ (¬ ((σ.1 0 0 3) ≤ y2) → (vp_in y2 6 ∧ (vp_in x1 8 ∧ (((σ.1 8 (ix y2) (ix x1)) = 0 → lp_X4_owner_11 x1 Q n σ (y2 + 1)) ∧ (¬ ((σ.1 8 (ix y2) (ix x1)) = 0) → Q σ y2))))))
def wp_X4_owner (σ : Sg) (x1 : Int32) (Q : Sg → Int32 → Prop) : Prop := (wp_X4_isPage σ x1 (fun σ1 r2 => ((r2 = 0 → Q σ1 (-1)) ∧ (¬ (r2 = 0) → (∃ n9, lp_X4_owner_11 x1 Q n9 σ1 0)))))
abbrev rm_X4_owner : Room := { frames := 1, cells := 0, slots := 0, locals := 20 }
set_option maxHeartbeats 4000000 in
set_option maxRecDepth 100000 in
theorem c_X4_owner (l : Launch) {D : va_G} {P : List (Nat × Nat)} {ad : Nat × Nat → Nat} {cy : Nat → ClassId} (hAd : AdOk P ad) (hC : InC P) (σ : Sg) (x1 : Int32) (Q : Sg → Int32 → Prop) (h : wp_X4_owner σ x1 Q) : Met l yX4_owner wsX4_owner rm_X4_owner (xPc D P ad cy σ [.ref (ad (0, 0)), .int x1]) (va_Qi (fun r σ' => Q σ' r) (xB D P ad cy) (Aof P ad)) 0 0 (Aof P ad) := by
  refine Met.ofW (cc := cX4_owner) (maxL := 3) (ret := (some .int)) (by decide +kernel) rfl ?_
  intro p e s m args below meth c s₁ B hml hv
  obtain ⟨rfl, hP, hK⟩ := hv
  have hx := B.exec
  have hb := B.bytes
  have hr := B.returns
  have hts := atoms_spec (ws := wsX4_owner) B.pre
  have hown : s.vm.findClass RX4 = some m.cls := findClass_of_methodNamed B.named
  have hlocks := B.notSynchronized
  have hS : va_S (Aof P ad) s.heap s.heap [] := va_S.rf
  have hl := lv_entry ([.ref (ad (0, 0)), .int x1] : List Value) (n := 3) (Nat.le_of_ble_eq_true rfl)
  rw [lg_entry_eq]
  generalize (lg_sl ([.ref (ad (0, 0)), .int x1] : List Value) ++ List.replicate (3 - (lg_sl ([.ref (ad (0, 0)), .int x1] : List Value)).length) Slot.unset).toArray = ls at hl ⊢
  have hl : lv_has ls 3 [(0, .ref (ad (0, 0))), (1, .int x1)] := hl
  have L11 : ∀ (n : Nat) (σ : Sg) (y2 : Int32) (H : Heap) (locs : List Loc) (ls : Array Slot), lp_X4_owner_11 x1 Q n σ y2 → Wo D P ad cy σ H → va_S (Aof P ad) s.heap H locs → lv_has ls 3 [(0, .ref (ad (0, 0))), (1, .int x1), (2, .int y2)] → W p l e (headSpec wsX4_owner rm_X4_owner).room s m ([.ref (ad (0, 0)), .int x1] : List Value).toArray below meth c H locs 0 0 (MQ below (va_Qi (fun r σ' => Q σ' r) (xB D P ad cy) (Aof P ad)) ([.ref (ad (0, 0)), .int x1] : List Value).toArray s 0 0 (Aof P ad)) (F0 m 11 ls []) := by
    intro n
    induction n with
    | zero =>
      intro σ y2 H locs ls h
      exact h.elim
    | succ n ih =>
      intro σ y2 H locs ls h hP hS hl
      rw [lp_X4_owner_11] at h
      refine lv_iload_n hx hb dX4_owner_11 rfl (lv_at hl 2 rfl) ?_
      refine lv_aload_n hx hb dX4_owner_12 rfl (lv_at hl 0 rfl) ?_
      refine x_get (C := RX4) (T := TX4) (N := 4) (ci := 4) (a := 0) (k := 0) (v := .int (σ.1 0 0 3)) hx hb hts iw_X4_owner_X4 hown hK hP (in1 hC (a := 0) (by decide) (by decide)) rfl rfl 3 (by decide) (hts (.fieldLink RX4 141 "PageOwners" "nodes" "I") (by decide +kernel)) (fun _ h9 => h9) rfl dX4_owner_13 ?_
      refine lv_icmp_ge (tgt := 41) hx hb dX4_owner_16 (by decide) (fun c5 => ?_) (fun c5 => ?_)
      · have h := h.1 c5
        refine lv_iconst (v := (-1)) hx hb dX4_owner_41 (by decide) ?_
        exact W.iret (v := (-1)) hx hb hr (fun t ht hW => ⟨⟨(-1), σ, rfl, h, by rw [ht]; exact hP, va_K.moved hW.alike hK⟩, hS.F ht⟩) hS.2.2 dX4_owner_42
      · have h := h.2 c5
        refine lv_aload_n hx hb dX4_owner_19 rfl (lv_at hl 0 rfl) ?_
        refine x_get (C := RX4) (T := TX4) (N := 4) (ci := 4) (a := 0) (k := 0) (v := .ref (ad (1, 0))) hx hb hts iw_X4_owner_X4 hown hK hP (in1 hC (a := 0) (by decide) (by decide)) rfl rfl 0 (by decide) (hts (.fieldLink RX4 11 "PageOwners" "all" "[LPageOwners$Node;") (by decide +kernel)) (fun _ h9 => h9) rfl dX4_owner_20 ?_
        refine lv_iload_n hx hb dX4_owner_23 rfl (lv_at hl 2 rfl) ?_
        have hin6 := h.1
        have h := h.2
        refine x_aldN hC hx hb hK hP hin6 dX4_owner_24 ?_
        refine x_get (C := RX3) (T := TX3) (N := 10) (ci := 3) (a := 5) (k := (ix y2)) (v := .ref (ad (8, (ix y2)))) hx hb hts iw_X4_owner_X3 hown hK hP (in6 hC (a := 5) (by decide) (ix_lt hin6)) rfl rfl 3 (by decide) (hts (.fieldLink RX4 61 "PageOwners$Node" "owns" "[Z") (by decide +kernel)) (fun _ h9 => h9) rfl dX4_owner_25 ?_
        refine lv_iload_n hx hb dX4_owner_28 rfl (lv_at hl 1 rfl) ?_
        have hin7 := h.1
        have h := h.2
        refine x_zald (a := 8) (k := (ix y2)) (n := 8) hx hb hK hP (in6 hC (a := 8) (by decide) (ix_lt hin6)) (fun _ => rfl) hin7 dX4_owner_29 ?_
        refine lv_if_eq (tgt := 35) hx hb dX4_owner_30 (by decide) (fun c8 => ?_) (fun c8 => ?_)
        · have h := h.1 c8
          refine lv_iinc (v := (y2 + 1)) (lv' := [(2, .int (y2 + 1)), (0, .ref (ad (0, 0))), (1, .int x1)]) hx hb dX4_owner_35 hl (k := 2) rfl rfl (by decide) rfl (fun ls hl => ?_)
          refine lv_goto (tgt := 11) hx hb dX4_owner_38 (by decide) ?_
          exact ih σ (y2 + 1) _ _ _ h hP hS (lv_sub hl [1, 2, 0] rfl)
        · have h := h.2 c8
          refine lv_iload_n hx hb dX4_owner_33 rfl (lv_at hl 2 rfl) ?_
          exact W.iret (v := y2) hx hb hr (fun t ht hW => ⟨⟨y2, σ, rfl, h, by rw [ht]; exact hP, va_K.moved hW.alike hK⟩, hS.F ht⟩) hS.2.2 dX4_owner_34
  unfold wp_X4_owner at h
  refine lv_iload_n hx hb dX4_owner_0 rfl (lv_at hl 1 rfl) ?_
  refine x_cSi (As := [.int x1]) (rest := []) ⟨hx, hb, hml, hown, hts⟩ hK hP hS (c_X4_isPage l hAd hC σ x1 _ h) (va_cwS 1 hts gX4_owner_X4_isPage rfl rfl rfl (by decide +kernel) ⟨Nat.le_of_ble_eq_true rfl, Nat.le_of_ble_eq_true rfl⟩) rfl hl.1 rfl (Nat.le_of_ble_eq_true rfl) dX4_owner_1 ⟨Nat.zero_le _, Nat.zero_le _⟩ (fun r2 σ1 H locs h hP hS => ?_)
  refine lv_if_ne (tgt := 9) hx hb dX4_owner_4 (by decide) (fun c4 => ?_) (fun c4 => ?_)
  · have h := h.2 c4
    refine lv_iconst (v := 0) hx hb dX4_owner_9 (by decide) ?_
    refine lv_istore_n (lv' := [(2, .int 0), (0, .ref (ad (0, 0))), (1, .int x1)]) hx hb dX4_owner_10 rfl hl (by decide) rfl (fun ls hl => ?_)
    obtain ⟨n9, h⟩ := h
    exact L11 n9 σ1 0 _ _ _ h hP hS (lv_sub hl [1, 2, 0] rfl)
  · have h := h.1 c4
    refine lv_iconst (v := (-1)) hx hb dX4_owner_7 (by decide) ?_
    exact W.iret (v := (-1)) hx hb hr (fun t ht hW => ⟨⟨(-1), σ1, rfl, h, by rw [ht]; exact hP, va_K.moved hW.alike hK⟩, hS.F ht⟩) hS.2.2 dX4_owner_8
theorem iw_X4_guess_X3 : ∀ w ∈ wsX30, w ∈ wsX4_guess := fun _ h => List.mem_cons_of_mem _ (List.mem_append_right _ h)
theorem iw_X4_guess_X4 : ∀ w ∈ wsX40, w ∈ wsX4_guess := fun _ h => List.mem_cons_of_mem _ (List.mem_append_left _ (List.mem_append_right _ h))
def wp_X4_guess (σ : Sg) (x1 : Int32) (x2 : Int32) (Q : Sg → Int32 → Prop) : Prop := (wp_X4_isNode σ x1 (fun σ1 r2 => ((r2 = 0 → Q σ1 (-1)) ∧ (¬ (r2 = 0) → (wp_X4_isPage σ1 x2 (fun σ5 r6 => ((r6 = 0 → Q σ5 (-1)) ∧ (¬ (r6 = 0) → (vp_in x1 6 ∧ (vp_in x2 8 ∧ Q σ5 (σ5.1 9 (ix x1) (ix x2))))))))))))
abbrev rm_X4_guess : Room := { frames := 1, cells := 0, slots := 0, locals := 21 }
set_option maxHeartbeats 4000000 in
set_option maxRecDepth 100000 in
theorem c_X4_guess (l : Launch) {D : va_G} {P : List (Nat × Nat)} {ad : Nat × Nat → Nat} {cy : Nat → ClassId} (hAd : AdOk P ad) (hC : InC P) (σ : Sg) (x1 : Int32) (x2 : Int32) (Q : Sg → Int32 → Prop) (h : wp_X4_guess σ x1 x2 Q) : Met l yX4_guess wsX4_guess rm_X4_guess (xPc D P ad cy σ [.ref (ad (0, 0)), .int x1, .int x2]) (va_Qi (fun r σ' => Q σ' r) (xB D P ad cy) (Aof P ad)) 0 0 (Aof P ad) := by
  refine Met.ofW (cc := cX4_guess) (maxL := 3) (ret := (some .int)) (by decide +kernel) rfl ?_
  intro p e s m args below meth c s₁ B hml hv
  obtain ⟨rfl, hP, hK⟩ := hv
  have hx := B.exec
  have hb := B.bytes
  have hr := B.returns
  have hts := atoms_spec (ws := wsX4_guess) B.pre
  have hown : s.vm.findClass RX4 = some m.cls := findClass_of_methodNamed B.named
  have hlocks := B.notSynchronized
  have hS : va_S (Aof P ad) s.heap s.heap [] := va_S.rf
  have hl := lv_entry ([.ref (ad (0, 0)), .int x1, .int x2] : List Value) (n := 3) (Nat.le_of_ble_eq_true rfl)
  rw [lg_entry_eq]
  generalize (lg_sl ([.ref (ad (0, 0)), .int x1, .int x2] : List Value) ++ List.replicate (3 - (lg_sl ([.ref (ad (0, 0)), .int x1, .int x2] : List Value)).length) Slot.unset).toArray = ls at hl ⊢
  have hl : lv_has ls 3 [(0, .ref (ad (0, 0))), (1, .int x1), (2, .int x2)] := hl
  unfold wp_X4_guess at h
  refine lv_aload_n hx hb dX4_guess_0 rfl (lv_at hl 0 rfl) ?_
  refine lv_iload_n hx hb dX4_guess_1 rfl (lv_at hl 1 rfl) ?_
  refine x_cVi (C := RX4) (As := [.int x1]) (rest := []) ⟨hx, hb, hml, hown, hts⟩ hK hP hS (c_X4_isNode l hAd hC σ x1 _ h) (cwV 1 hts gX4_guess_X4_isNode rfl rfl rfl (by decide +kernel) ⟨Nat.le_of_ble_eq_true rfl, Nat.le_of_ble_eq_true rfl⟩) (x_recv hK hP (in1 hC (a := 0) (by decide) (by decide)) rfl rfl) rfl hl.1 rfl (Nat.le_of_ble_eq_true rfl) dX4_guess_2 ⟨Nat.zero_le _, Nat.zero_le _⟩ (fun r2 σ1 H locs h hP hS => ?_)
  refine lv_if_eq (tgt := 29) hx hb dX4_guess_5 (by decide) (fun c4 => ?_) (fun c4 => ?_)
  · have h := h.1 c4
    refine lv_iconst (v := (-1)) hx hb dX4_guess_29 (by decide) ?_
    exact W.iret (v := (-1)) hx hb hr (fun t ht hW => ⟨⟨(-1), σ1, rfl, h, by rw [ht]; exact hP, va_K.moved hW.alike hK⟩, hS.F ht⟩) hS.2.2 dX4_guess_30
  · have h := h.2 c4
    refine lv_iload_n hx hb dX4_guess_8 rfl (lv_at hl 2 rfl) ?_
    refine x_cSi (As := [.int x2]) (rest := []) ⟨hx, hb, hml, hown, hts⟩ hK hP hS (c_X4_isPage l hAd hC σ1 x2 _ h) (va_cwS 1 hts gX4_guess_X4_isPage rfl rfl rfl (by decide +kernel) ⟨Nat.le_of_ble_eq_true rfl, Nat.le_of_ble_eq_true rfl⟩) rfl hl.1 rfl (Nat.le_of_ble_eq_true rfl) dX4_guess_9 ⟨Nat.zero_le _, Nat.zero_le _⟩ (fun r6 σ5 H locs h hP hS => ?_)
    refine lv_if_eq (tgt := 29) hx hb dX4_guess_12 (by decide) (fun c8 => ?_) (fun c8 => ?_)
    · have h := h.1 c8
      refine lv_iconst (v := (-1)) hx hb dX4_guess_29 (by decide) ?_
      exact W.iret (v := (-1)) hx hb hr (fun t ht hW => ⟨⟨(-1), σ5, rfl, h, by rw [ht]; exact hP, va_K.moved hW.alike hK⟩, hS.F ht⟩) hS.2.2 dX4_guess_30
    · have h := h.2 c8
      refine lv_aload_n hx hb dX4_guess_15 rfl (lv_at hl 0 rfl) ?_
      refine x_get (C := RX4) (T := TX4) (N := 4) (ci := 4) (a := 0) (k := 0) (v := .ref (ad (1, 0))) hx hb hts iw_X4_guess_X4 hown hK hP (in1 hC (a := 0) (by decide) (by decide)) rfl rfl 0 (by decide) (hts (.fieldLink RX4 11 "PageOwners" "all" "[LPageOwners$Node;") (by decide +kernel)) (fun _ h9 => h9) rfl dX4_guess_16 ?_
      refine lv_iload_n hx hb dX4_guess_19 rfl (lv_at hl 1 rfl) ?_
      have hin9 := h.1
      have h := h.2
      refine x_aldN hC hx hb hK hP hin9 dX4_guess_20 ?_
      refine x_get (C := RX3) (T := TX3) (N := 10) (ci := 3) (a := 5) (k := (ix x1)) (v := .ref (ad (9, (ix x1)))) hx hb hts iw_X4_guess_X3 hown hK hP (in6 hC (a := 5) (by decide) (ix_lt hin9)) rfl rfl 4 (by decide) (hts (.fieldLink RX4 144 "PageOwners$Node" "guessOf" "[I") (by decide +kernel)) (fun _ h9 => h9) rfl dX4_guess_21 ?_
      refine lv_iload_n hx hb dX4_guess_24 rfl (lv_at hl 2 rfl) ?_
      have hin10 := h.1
      have h := h.2
      refine x_iald (a := 9) (k := (ix x1)) (n := 8) hx hb hK hP (in6 hC (a := 9) (by decide) (ix_lt hin9)) (fun _ => rfl) hin10 dX4_guess_25 ?_
      refine lv_goto (tgt := 30) hx hb dX4_guess_26 (by decide) ?_
      exact W.iret (v := (σ5.1 9 (ix x1) (ix x2))) hx hb hr (fun t ht hW => ⟨⟨(σ5.1 9 (ix x1) (ix x2)), σ5, rfl, h, by rw [ht]; exact hP, va_K.moved hW.alike hK⟩, hS.F ht⟩) hS.2.2 dX4_guess_30
theorem iw_X4_copies_X3 : ∀ w ∈ wsX30, w ∈ wsX4_copies := fun _ h => List.mem_cons_of_mem _ (List.mem_append_right _ h)
theorem iw_X4_copies_X4 : ∀ w ∈ wsX40, w ∈ wsX4_copies := fun _ h => List.mem_cons_of_mem _ (List.mem_append_left _ (List.mem_append_right _ h))
def wp_X4_copies (σ : Sg) (x1 : Int32) (x2 : Int32) (Q : Sg → Int32 → Prop) : Prop := (wp_X4_isNode σ x1 (fun σ1 r2 => ((r2 = 0 → Q σ1 (-1)) ∧ (¬ (r2 = 0) → (wp_X4_isPage σ1 x2 (fun σ5 r6 => ((r6 = 0 → Q σ5 (-1)) ∧ (¬ (r6 = 0) → (vp_in x1 6 ∧ (vp_in x2 8 ∧ Q σ5 (σ5.1 10 (ix x1) (ix x2))))))))))))
abbrev rm_X4_copies : Room := { frames := 1, cells := 0, slots := 0, locals := 21 }
set_option maxHeartbeats 4000000 in
set_option maxRecDepth 100000 in
theorem c_X4_copies (l : Launch) {D : va_G} {P : List (Nat × Nat)} {ad : Nat × Nat → Nat} {cy : Nat → ClassId} (hAd : AdOk P ad) (hC : InC P) (σ : Sg) (x1 : Int32) (x2 : Int32) (Q : Sg → Int32 → Prop) (h : wp_X4_copies σ x1 x2 Q) : Met l yX4_copies wsX4_copies rm_X4_copies (xPc D P ad cy σ [.ref (ad (0, 0)), .int x1, .int x2]) (va_Qi (fun r σ' => Q σ' r) (xB D P ad cy) (Aof P ad)) 0 0 (Aof P ad) := by
  refine Met.ofW (cc := cX4_copies) (maxL := 3) (ret := (some .int)) (by decide +kernel) rfl ?_
  intro p e s m args below meth c s₁ B hml hv
  obtain ⟨rfl, hP, hK⟩ := hv
  have hx := B.exec
  have hb := B.bytes
  have hr := B.returns
  have hts := atoms_spec (ws := wsX4_copies) B.pre
  have hown : s.vm.findClass RX4 = some m.cls := findClass_of_methodNamed B.named
  have hlocks := B.notSynchronized
  have hS : va_S (Aof P ad) s.heap s.heap [] := va_S.rf
  have hl := lv_entry ([.ref (ad (0, 0)), .int x1, .int x2] : List Value) (n := 3) (Nat.le_of_ble_eq_true rfl)
  rw [lg_entry_eq]
  generalize (lg_sl ([.ref (ad (0, 0)), .int x1, .int x2] : List Value) ++ List.replicate (3 - (lg_sl ([.ref (ad (0, 0)), .int x1, .int x2] : List Value)).length) Slot.unset).toArray = ls at hl ⊢
  have hl : lv_has ls 3 [(0, .ref (ad (0, 0))), (1, .int x1), (2, .int x2)] := hl
  unfold wp_X4_copies at h
  refine lv_aload_n hx hb dX4_copies_0 rfl (lv_at hl 0 rfl) ?_
  refine lv_iload_n hx hb dX4_copies_1 rfl (lv_at hl 1 rfl) ?_
  refine x_cVi (C := RX4) (As := [.int x1]) (rest := []) ⟨hx, hb, hml, hown, hts⟩ hK hP hS (c_X4_isNode l hAd hC σ x1 _ h) (cwV 1 hts gX4_copies_X4_isNode rfl rfl rfl (by decide +kernel) ⟨Nat.le_of_ble_eq_true rfl, Nat.le_of_ble_eq_true rfl⟩) (x_recv hK hP (in1 hC (a := 0) (by decide) (by decide)) rfl rfl) rfl hl.1 rfl (Nat.le_of_ble_eq_true rfl) dX4_copies_2 ⟨Nat.zero_le _, Nat.zero_le _⟩ (fun r2 σ1 H locs h hP hS => ?_)
  refine lv_if_eq (tgt := 29) hx hb dX4_copies_5 (by decide) (fun c4 => ?_) (fun c4 => ?_)
  · have h := h.1 c4
    refine lv_iconst (v := (-1)) hx hb dX4_copies_29 (by decide) ?_
    exact W.iret (v := (-1)) hx hb hr (fun t ht hW => ⟨⟨(-1), σ1, rfl, h, by rw [ht]; exact hP, va_K.moved hW.alike hK⟩, hS.F ht⟩) hS.2.2 dX4_copies_30
  · have h := h.2 c4
    refine lv_iload_n hx hb dX4_copies_8 rfl (lv_at hl 2 rfl) ?_
    refine x_cSi (As := [.int x2]) (rest := []) ⟨hx, hb, hml, hown, hts⟩ hK hP hS (c_X4_isPage l hAd hC σ1 x2 _ h) (va_cwS 1 hts gX4_copies_X4_isPage rfl rfl rfl (by decide +kernel) ⟨Nat.le_of_ble_eq_true rfl, Nat.le_of_ble_eq_true rfl⟩) rfl hl.1 rfl (Nat.le_of_ble_eq_true rfl) dX4_copies_9 ⟨Nat.zero_le _, Nat.zero_le _⟩ (fun r6 σ5 H locs h hP hS => ?_)
    refine lv_if_eq (tgt := 29) hx hb dX4_copies_12 (by decide) (fun c8 => ?_) (fun c8 => ?_)
    · have h := h.1 c8
      refine lv_iconst (v := (-1)) hx hb dX4_copies_29 (by decide) ?_
      exact W.iret (v := (-1)) hx hb hr (fun t ht hW => ⟨⟨(-1), σ5, rfl, h, by rw [ht]; exact hP, va_K.moved hW.alike hK⟩, hS.F ht⟩) hS.2.2 dX4_copies_30
    · have h := h.2 c8
      refine lv_aload_n hx hb dX4_copies_15 rfl (lv_at hl 0 rfl) ?_
      refine x_get (C := RX4) (T := TX4) (N := 4) (ci := 4) (a := 0) (k := 0) (v := .ref (ad (1, 0))) hx hb hts iw_X4_copies_X4 hown hK hP (in1 hC (a := 0) (by decide) (by decide)) rfl rfl 0 (by decide) (hts (.fieldLink RX4 11 "PageOwners" "all" "[LPageOwners$Node;") (by decide +kernel)) (fun _ h9 => h9) rfl dX4_copies_16 ?_
      refine lv_iload_n hx hb dX4_copies_19 rfl (lv_at hl 1 rfl) ?_
      have hin9 := h.1
      have h := h.2
      refine x_aldN hC hx hb hK hP hin9 dX4_copies_20 ?_
      refine x_get (C := RX3) (T := TX3) (N := 10) (ci := 3) (a := 5) (k := (ix x1)) (v := .ref (ad (10, (ix x1)))) hx hb hts iw_X4_copies_X3 hown hK hP (in6 hC (a := 5) (by decide) (ix_lt hin9)) rfl rfl 5 (by decide) (hts (.fieldLink RX4 147 "PageOwners$Node" "copySet" "[I") (by decide +kernel)) (fun _ h9 => h9) rfl dX4_copies_21 ?_
      refine lv_iload_n hx hb dX4_copies_24 rfl (lv_at hl 2 rfl) ?_
      have hin10 := h.1
      have h := h.2
      refine x_iald (a := 10) (k := (ix x1)) (n := 8) hx hb hK hP (in6 hC (a := 10) (by decide) (ix_lt hin9)) (fun _ => rfl) hin10 dX4_copies_25 ?_
      refine lv_goto (tgt := 30) hx hb dX4_copies_26 (by decide) ?_
      exact W.iret (v := (σ5.1 10 (ix x1) (ix x2))) hx hb hr (fun t ht hW => ⟨⟨(σ5.1 10 (ix x1) (ix x2)), σ5, rfl, h, by rw [ht]; exact hP, va_K.moved hW.alike hK⟩, hS.F ht⟩) hS.2.2 dX4_copies_30
theorem iw_X4_word_X3 : ∀ w ∈ wsX30, w ∈ wsX4_word := fun _ h => List.mem_cons_of_mem _ (List.mem_append_right _ h)
theorem iw_X4_word_X4 : ∀ w ∈ wsX40, w ∈ wsX4_word := fun _ h => List.mem_cons_of_mem _ (List.mem_append_left _ (List.mem_append_right _ h))
def wp_X4_word (σ : Sg) (x1 : Int32) (x2 : Int32) (x3 : Int32) (Q : Sg → Int64 → Prop) : Prop := (wp_X4_isNode σ x1 (fun σ1 r2 => ((r2 = 0 → Q σ1 0) ∧ (¬ (r2 = 0) → (wp_X4_isPage σ1 x2 (fun σ5 r6 => ((r6 = 0 → Q σ5 0) ∧ (¬ (r6 = 0) → (wp_X4_isWord σ5 x3 (fun σ9 r10 => ((r10 = 0 → Q σ9 0) ∧ (¬ (r10 = 0) → (vp_in x1 6 ∧ (vp_in ((x2 * 4) + x3) 32 ∧ Q σ9 (σ9.2.1 11 (ix x1) (ix ((x2 * 4) + x3)))))))))))))))))
abbrev rm_X4_word : Room := { frames := 1, cells := 0, slots := 0, locals := 21 }
set_option maxHeartbeats 4000000 in
set_option maxRecDepth 100000 in
theorem c_X4_word (l : Launch) {D : va_G} {P : List (Nat × Nat)} {ad : Nat × Nat → Nat} {cy : Nat → ClassId} (hAd : AdOk P ad) (hC : InC P) (σ : Sg) (x1 : Int32) (x2 : Int32) (x3 : Int32) (Q : Sg → Int64 → Prop) (h : wp_X4_word σ x1 x2 x3 Q) : Met l yX4_word wsX4_word rm_X4_word (xPc D P ad cy σ [.ref (ad (0, 0)), .int x1, .int x2, .int x3]) (va_Ql (fun r σ' => Q σ' r) (xB D P ad cy) (Aof P ad)) 0 0 (Aof P ad) := by
  refine Met.ofW (cc := cX4_word) (maxL := 4) (ret := (some .long)) (by decide +kernel) rfl ?_
  intro p e s m args below meth c s₁ B hml hv
  obtain ⟨rfl, hP, hK⟩ := hv
  have hx := B.exec
  have hb := B.bytes
  have hr := B.returns
  have hts := atoms_spec (ws := wsX4_word) B.pre
  have hown : s.vm.findClass RX4 = some m.cls := findClass_of_methodNamed B.named
  have hlocks := B.notSynchronized
  have hS : va_S (Aof P ad) s.heap s.heap [] := va_S.rf
  have hl := lv_entry ([.ref (ad (0, 0)), .int x1, .int x2, .int x3] : List Value) (n := 4) (Nat.le_of_ble_eq_true rfl)
  rw [lg_entry_eq]
  generalize (lg_sl ([.ref (ad (0, 0)), .int x1, .int x2, .int x3] : List Value) ++ List.replicate (4 - (lg_sl ([.ref (ad (0, 0)), .int x1, .int x2, .int x3] : List Value)).length) Slot.unset).toArray = ls at hl ⊢
  have hl : lv_has ls 4 [(0, .ref (ad (0, 0))), (1, .int x1), (2, .int x2), (3, .int x3)] := hl
  unfold wp_X4_word at h
  refine lv_aload_n hx hb dX4_word_0 rfl (lv_at hl 0 rfl) ?_
  refine lv_iload_n hx hb dX4_word_1 rfl (lv_at hl 1 rfl) ?_
  refine x_cVi (C := RX4) (As := [.int x1]) (rest := []) ⟨hx, hb, hml, hown, hts⟩ hK hP hS (c_X4_isNode l hAd hC σ x1 _ h) (cwV 1 hts gX4_word_X4_isNode rfl rfl rfl (by decide +kernel) ⟨Nat.le_of_ble_eq_true rfl, Nat.le_of_ble_eq_true rfl⟩) (x_recv hK hP (in1 hC (a := 0) (by decide) (by decide)) rfl rfl) rfl hl.1 rfl (Nat.le_of_ble_eq_true rfl) dX4_word_2 ⟨Nat.zero_le _, Nat.zero_le _⟩ (fun r2 σ1 H locs h hP hS => ?_)
  refine lv_if_eq (tgt := 40) hx hb dX4_word_5 (by decide) (fun c4 => ?_) (fun c4 => ?_)
  · have h := h.1 c4
    refine lv_lconst (v := 0) hx hb dX4_word_40 (by decide) ?_
    exact W.lret (v := 0) hx hb hr (fun t ht hW => ⟨⟨0, σ1, rfl, h, by rw [ht]; exact hP, va_K.moved hW.alike hK⟩, hS.F ht⟩) hS.2.2 dX4_word_41
  · have h := h.2 c4
    refine lv_iload_n hx hb dX4_word_8 rfl (lv_at hl 2 rfl) ?_
    refine x_cSi (As := [.int x2]) (rest := []) ⟨hx, hb, hml, hown, hts⟩ hK hP hS (c_X4_isPage l hAd hC σ1 x2 _ h) (va_cwS 1 hts gX4_word_X4_isPage rfl rfl rfl (by decide +kernel) ⟨Nat.le_of_ble_eq_true rfl, Nat.le_of_ble_eq_true rfl⟩) rfl hl.1 rfl (Nat.le_of_ble_eq_true rfl) dX4_word_9 ⟨Nat.zero_le _, Nat.zero_le _⟩ (fun r6 σ5 H locs h hP hS => ?_)
    refine lv_if_eq (tgt := 40) hx hb dX4_word_12 (by decide) (fun c8 => ?_) (fun c8 => ?_)
    · have h := h.1 c8
      refine lv_lconst (v := 0) hx hb dX4_word_40 (by decide) ?_
      exact W.lret (v := 0) hx hb hr (fun t ht hW => ⟨⟨0, σ5, rfl, h, by rw [ht]; exact hP, va_K.moved hW.alike hK⟩, hS.F ht⟩) hS.2.2 dX4_word_41
    · have h := h.2 c8
      refine lv_iload_n hx hb dX4_word_15 rfl (lv_at hl 3 rfl) ?_
      refine x_cSi (As := [.int x3]) (rest := []) ⟨hx, hb, hml, hown, hts⟩ hK hP hS (c_X4_isWord l hAd hC σ5 x3 _ h) (va_cwS 1 hts gX4_word_X4_isWord rfl rfl rfl (by decide +kernel) ⟨Nat.le_of_ble_eq_true rfl, Nat.le_of_ble_eq_true rfl⟩) rfl hl.1 rfl (Nat.le_of_ble_eq_true rfl) dX4_word_16 ⟨Nat.zero_le _, Nat.zero_le _⟩ (fun r10 σ9 H locs h hP hS => ?_)
      refine lv_if_eq (tgt := 40) hx hb dX4_word_19 (by decide) (fun c12 => ?_) (fun c12 => ?_)
      · have h := h.1 c12
        refine lv_lconst (v := 0) hx hb dX4_word_40 (by decide) ?_
        exact W.lret (v := 0) hx hb hr (fun t ht hW => ⟨⟨0, σ9, rfl, h, by rw [ht]; exact hP, va_K.moved hW.alike hK⟩, hS.F ht⟩) hS.2.2 dX4_word_41
      · have h := h.2 c12
        refine lv_aload_n hx hb dX4_word_22 rfl (lv_at hl 0 rfl) ?_
        refine x_get (C := RX4) (T := TX4) (N := 4) (ci := 4) (a := 0) (k := 0) (v := .ref (ad (1, 0))) hx hb hts iw_X4_word_X4 hown hK hP (in1 hC (a := 0) (by decide) (by decide)) rfl rfl 0 (by decide) (hts (.fieldLink RX4 11 "PageOwners" "all" "[LPageOwners$Node;") (by decide +kernel)) (fun _ h9 => h9) rfl dX4_word_23 ?_
        refine lv_iload_n hx hb dX4_word_26 rfl (lv_at hl 1 rfl) ?_
        have hin13 := h.1
        have h := h.2
        refine x_aldN hC hx hb hK hP hin13 dX4_word_27 ?_
        refine x_get (C := RX3) (T := TX3) (N := 10) (ci := 3) (a := 5) (k := (ix x1)) (v := .ref (ad (11, (ix x1)))) hx hb hts iw_X4_word_X3 hown hK hP (in6 hC (a := 5) (by decide) (ix_lt hin13)) rfl rfl 6 (by decide) (hts (.fieldLink RX4 153 "PageOwners$Node" "words" "[J") (by decide +kernel)) (fun _ h9 => h9) rfl dX4_word_28 ?_
        refine lv_iload_n hx hb dX4_word_31 rfl (lv_at hl 2 rfl) ?_
        refine lv_iconst (v := 4) hx hb dX4_word_32 (by decide) ?_
        refine lv_imul hx hb dX4_word_33 ?_
        refine lv_iload_n hx hb dX4_word_34 rfl (lv_at hl 3 rfl) ?_
        refine lv_iadd hx hb dX4_word_35 ?_
        have hin14 := h.1
        have h := h.2
        refine x_lald (a := 11) (k := (ix x1)) (n := 32) hx hb hK hP (in6 hC (a := 11) (by decide) (ix_lt hin13)) (fun _ => rfl) hin14 dX4_word_36 ?_
        refine lv_goto (tgt := 41) hx hb dX4_word_37 (by decide) ?_
        exact W.lret (v := (σ9.2.1 11 (ix x1) (ix ((x2 * 4) + x3)))) hx hb hr (fun t ht hW => ⟨⟨(σ9.2.1 11 (ix x1) (ix ((x2 * 4) + x3))), σ9, rfl, h, by rw [ht]; exact hP, va_K.moved hW.alike hK⟩, hS.F ht⟩) hS.2.2 dX4_word_41
theorem iw_X4_queue_X3 : ∀ w ∈ wsX30, w ∈ wsX4_queue := fun _ h => List.mem_cons_of_mem _ (List.mem_append_right _ h)
theorem iw_X4_queue_X4 : ∀ w ∈ wsX40, w ∈ wsX4_queue := fun _ h => List.mem_cons_of_mem _ (List.mem_append_left _ (List.mem_append_right _ h))
def wp_X4_queue (σ : Sg) (x1 : Int32) (x2 : Int32) (Q : Sg → Int32 → Prop) : Prop := (wp_X4_isNode σ x1 (fun σ1 r2 => ((r2 = 0 → Q σ1 (-1)) ∧ (¬ (r2 = 0) → (wp_X4_isPage σ1 x2 (fun σ5 r6 => ((r6 = 0 → Q σ5 (-1)) ∧ (¬ (r6 = 0) → (vp_in x1 6 ∧ (vp_in x2 8 ∧ Q σ5 (σ5.1 12 (ix x1) (ix x2))))))))))))
abbrev rm_X4_queue : Room := { frames := 1, cells := 0, slots := 0, locals := 21 }
set_option maxHeartbeats 4000000 in
set_option maxRecDepth 100000 in
theorem c_X4_queue (l : Launch) {D : va_G} {P : List (Nat × Nat)} {ad : Nat × Nat → Nat} {cy : Nat → ClassId} (hAd : AdOk P ad) (hC : InC P) (σ : Sg) (x1 : Int32) (x2 : Int32) (Q : Sg → Int32 → Prop) (h : wp_X4_queue σ x1 x2 Q) : Met l yX4_queue wsX4_queue rm_X4_queue (xPc D P ad cy σ [.ref (ad (0, 0)), .int x1, .int x2]) (va_Qi (fun r σ' => Q σ' r) (xB D P ad cy) (Aof P ad)) 0 0 (Aof P ad) := by
  refine Met.ofW (cc := cX4_queue) (maxL := 3) (ret := (some .int)) (by decide +kernel) rfl ?_
  intro p e s m args below meth c s₁ B hml hv
  obtain ⟨rfl, hP, hK⟩ := hv
  have hx := B.exec
  have hb := B.bytes
  have hr := B.returns
  have hts := atoms_spec (ws := wsX4_queue) B.pre
  have hown : s.vm.findClass RX4 = some m.cls := findClass_of_methodNamed B.named
  have hlocks := B.notSynchronized
  have hS : va_S (Aof P ad) s.heap s.heap [] := va_S.rf
  have hl := lv_entry ([.ref (ad (0, 0)), .int x1, .int x2] : List Value) (n := 3) (Nat.le_of_ble_eq_true rfl)
  rw [lg_entry_eq]
  generalize (lg_sl ([.ref (ad (0, 0)), .int x1, .int x2] : List Value) ++ List.replicate (3 - (lg_sl ([.ref (ad (0, 0)), .int x1, .int x2] : List Value)).length) Slot.unset).toArray = ls at hl ⊢
  have hl : lv_has ls 3 [(0, .ref (ad (0, 0))), (1, .int x1), (2, .int x2)] := hl
  unfold wp_X4_queue at h
  refine lv_aload_n hx hb dX4_queue_0 rfl (lv_at hl 0 rfl) ?_
  refine lv_iload_n hx hb dX4_queue_1 rfl (lv_at hl 1 rfl) ?_
  refine x_cVi (C := RX4) (As := [.int x1]) (rest := []) ⟨hx, hb, hml, hown, hts⟩ hK hP hS (c_X4_isNode l hAd hC σ x1 _ h) (cwV 1 hts gX4_queue_X4_isNode rfl rfl rfl (by decide +kernel) ⟨Nat.le_of_ble_eq_true rfl, Nat.le_of_ble_eq_true rfl⟩) (x_recv hK hP (in1 hC (a := 0) (by decide) (by decide)) rfl rfl) rfl hl.1 rfl (Nat.le_of_ble_eq_true rfl) dX4_queue_2 ⟨Nat.zero_le _, Nat.zero_le _⟩ (fun r2 σ1 H locs h hP hS => ?_)
  refine lv_if_eq (tgt := 29) hx hb dX4_queue_5 (by decide) (fun c4 => ?_) (fun c4 => ?_)
  · have h := h.1 c4
    refine lv_iconst (v := (-1)) hx hb dX4_queue_29 (by decide) ?_
    exact W.iret (v := (-1)) hx hb hr (fun t ht hW => ⟨⟨(-1), σ1, rfl, h, by rw [ht]; exact hP, va_K.moved hW.alike hK⟩, hS.F ht⟩) hS.2.2 dX4_queue_30
  · have h := h.2 c4
    refine lv_iload_n hx hb dX4_queue_8 rfl (lv_at hl 2 rfl) ?_
    refine x_cSi (As := [.int x2]) (rest := []) ⟨hx, hb, hml, hown, hts⟩ hK hP hS (c_X4_isPage l hAd hC σ1 x2 _ h) (va_cwS 1 hts gX4_queue_X4_isPage rfl rfl rfl (by decide +kernel) ⟨Nat.le_of_ble_eq_true rfl, Nat.le_of_ble_eq_true rfl⟩) rfl hl.1 rfl (Nat.le_of_ble_eq_true rfl) dX4_queue_9 ⟨Nat.zero_le _, Nat.zero_le _⟩ (fun r6 σ5 H locs h hP hS => ?_)
    refine lv_if_eq (tgt := 29) hx hb dX4_queue_12 (by decide) (fun c8 => ?_) (fun c8 => ?_)
    · have h := h.1 c8
      refine lv_iconst (v := (-1)) hx hb dX4_queue_29 (by decide) ?_
      exact W.iret (v := (-1)) hx hb hr (fun t ht hW => ⟨⟨(-1), σ5, rfl, h, by rw [ht]; exact hP, va_K.moved hW.alike hK⟩, hS.F ht⟩) hS.2.2 dX4_queue_30
    · have h := h.2 c8
      refine lv_aload_n hx hb dX4_queue_15 rfl (lv_at hl 0 rfl) ?_
      refine x_get (C := RX4) (T := TX4) (N := 4) (ci := 4) (a := 0) (k := 0) (v := .ref (ad (1, 0))) hx hb hts iw_X4_queue_X4 hown hK hP (in1 hC (a := 0) (by decide) (by decide)) rfl rfl 0 (by decide) (hts (.fieldLink RX4 11 "PageOwners" "all" "[LPageOwners$Node;") (by decide +kernel)) (fun _ h9 => h9) rfl dX4_queue_16 ?_
      refine lv_iload_n hx hb dX4_queue_19 rfl (lv_at hl 1 rfl) ?_
      have hin9 := h.1
      have h := h.2
      refine x_aldN hC hx hb hK hP hin9 dX4_queue_20 ?_
      refine x_get (C := RX3) (T := TX3) (N := 10) (ci := 3) (a := 5) (k := (ix x1)) (v := .ref (ad (12, (ix x1)))) hx hb hts iw_X4_queue_X3 hown hK hP (in6 hC (a := 5) (by decide) (ix_lt hin9)) rfl rfl 7 (by decide) (hts (.fieldLink RX4 157 "PageOwners$Node" "queued" "[I") (by decide +kernel)) (fun _ h9 => h9) rfl dX4_queue_21 ?_
      refine lv_iload_n hx hb dX4_queue_24 rfl (lv_at hl 2 rfl) ?_
      have hin10 := h.1
      have h := h.2
      refine x_iald (a := 12) (k := (ix x1)) (n := 8) hx hb hK hP (in6 hC (a := 12) (by decide) (ix_lt hin9)) (fun _ => rfl) hin10 dX4_queue_25 ?_
      refine lv_goto (tgt := 30) hx hb dX4_queue_26 (by decide) ?_
      exact W.iret (v := (σ5.1 12 (ix x1) (ix x2))) hx hb hr (fun t ht hW => ⟨⟨(σ5.1 12 (ix x1) (ix x2)), σ5, rfl, h, by rw [ht]; exact hP, va_K.moved hW.alike hK⟩, hS.F ht⟩) hS.2.2 dX4_queue_30
theorem iw_X4_chain_X3 : ∀ w ∈ wsX30, w ∈ wsX4_chain := fun _ h => List.mem_cons_of_mem _ (List.mem_append_left _ (List.mem_append_right _ h))
theorem iw_X4_chain_X4 : ∀ w ∈ wsX40, w ∈ wsX4_chain := fun _ h => List.mem_cons_of_mem _ (List.mem_append_left _ (List.mem_append_left _ (List.mem_append_right _ h)))
def lp_X4_chain_27 (x1 : Int32) (x2 : Int32) (Q : Sg → Int32 → Prop) : Nat → Sg → Nat → Int32 → Prop
  | 0, _, _, _ => False
  | n + 1, σ, j3, y4 => (((σ.1 0 0 3) ≤ y4 → Q σ (-1)) ∧ (¬ ((σ.1 0 0 3) ≤ y4) → (wp_X4_endsChain σ j3 x2 (fun σ11 r12 => ((r12 = 0 → (vp_in x2 8 ∧ (vp_in (σ11.1 9 j3 (ix x2)) 6 ∧ lp_X4_chain_27 x1 x2 Q n σ11 (ix (σ11.1 9 j3 (ix x2))) (y4 + 1)))) ∧ (¬ (r12 = 0) → Q σ11 y4))))))
def wp_X4_chain (σ : Sg) (x1 : Int32) (x2 : Int32) (Q : Sg → Int32 → Prop) : Prop := (wp_X4_isNode σ x1 (fun σ1 r2 => ((r2 = 0 → Q σ1 (-1)) ∧ (¬ (r2 = 0) → (wp_X4_isPage σ1 x2 (fun σ5 r6 => ((r6 = 0 → Q σ5 (-1)) ∧ (¬ (r6 = 0) → (vp_in x1 6 ∧ (∃ n17, lp_X4_chain_27 x1 x2 Q n17 σ5 (ix x1) 0))))))))))
abbrev rm_X4_chain : Room := { frames := 2, cells := 0, slots := 0, locals := 43 }
set_option maxHeartbeats 4000000 in
set_option maxRecDepth 100000 in
theorem c_X4_chain (l : Launch) {D : va_G} {P : List (Nat × Nat)} {ad : Nat × Nat → Nat} {cy : Nat → ClassId} (hAd : AdOk P ad) (hC : InC P) (σ : Sg) (x1 : Int32) (x2 : Int32) (Q : Sg → Int32 → Prop) (h : wp_X4_chain σ x1 x2 Q) : Met l yX4_chain wsX4_chain rm_X4_chain (xPc D P ad cy σ [.ref (ad (0, 0)), .int x1, .int x2]) (va_Qi (fun r σ' => Q σ' r) (xB D P ad cy) (Aof P ad)) 0 0 (Aof P ad) := by
  refine Met.ofW (cc := cX4_chain) (maxL := 5) (ret := (some .int)) (by decide +kernel) rfl ?_
  intro p e s m args below meth c s₁ B hml hv
  obtain ⟨rfl, hP, hK⟩ := hv
  have hx := B.exec
  have hb := B.bytes
  have hr := B.returns
  have hts := atoms_spec (ws := wsX4_chain) B.pre
  have hown : s.vm.findClass RX4 = some m.cls := findClass_of_methodNamed B.named
  have hlocks := B.notSynchronized
  have hS : va_S (Aof P ad) s.heap s.heap [] := va_S.rf
  have hl := lv_entry ([.ref (ad (0, 0)), .int x1, .int x2] : List Value) (n := 5) (Nat.le_of_ble_eq_true rfl)
  rw [lg_entry_eq]
  generalize (lg_sl ([.ref (ad (0, 0)), .int x1, .int x2] : List Value) ++ List.replicate (5 - (lg_sl ([.ref (ad (0, 0)), .int x1, .int x2] : List Value)).length) Slot.unset).toArray = ls at hl ⊢
  have hl : lv_has ls 5 [(0, .ref (ad (0, 0))), (1, .int x1), (2, .int x2)] := hl
  have L27 : ∀ (n : Nat) (σ : Sg) (j3 : Nat) (hj3 : j3 < 6) (y4 : Int32) (H : Heap) (locs : List Loc) (ls : Array Slot), lp_X4_chain_27 x1 x2 Q n σ j3 y4 → Wo D P ad cy σ H → va_S (Aof P ad) s.heap H locs → lv_has ls 5 [(0, .ref (ad (0, 0))), (1, .int x1), (2, .int x2), (3, .ref (ad (5, j3))), (4, .int y4)] → W p l e (headSpec wsX4_chain rm_X4_chain).room s m ([.ref (ad (0, 0)), .int x1, .int x2] : List Value).toArray below meth c H locs 0 0 (MQ below (va_Qi (fun r σ' => Q σ' r) (xB D P ad cy) (Aof P ad)) ([.ref (ad (0, 0)), .int x1, .int x2] : List Value).toArray s 0 0 (Aof P ad)) (F0 m 27 ls []) := by
    intro n
    induction n with
    | zero =>
      intro σ j3 hj3 y4 H locs ls h
      exact h.elim
    | succ n ih =>
      intro σ j3 hj3 y4 H locs ls h hP hS hl
      rw [lp_X4_chain_27] at h
      refine lv_iload hx hb dX4_chain_27 (lv_at hl 4 rfl) ?_
      refine lv_aload_n hx hb dX4_chain_29 rfl (lv_at hl 0 rfl) ?_
      refine x_get (C := RX4) (T := TX4) (N := 4) (ci := 4) (a := 0) (k := 0) (v := .int (σ.1 0 0 3)) hx hb hts iw_X4_chain_X4 hown hK hP (in1 hC (a := 0) (by decide) (by decide)) rfl rfl 3 (by decide) (hts (.fieldLink RX4 141 "PageOwners" "nodes" "I") (by decide +kernel)) (fun _ h9 => h9) rfl dX4_chain_30 ?_
      refine lv_icmp_ge (tgt := 65) hx hb dX4_chain_33 (by decide) (fun c10 => ?_) (fun c10 => ?_)
      · have h := h.1 c10
        refine lv_iconst (v := (-1)) hx hb dX4_chain_65 (by decide) ?_
        exact W.iret (v := (-1)) hx hb hr (fun t ht hW => ⟨⟨(-1), σ, rfl, h, by rw [ht]; exact hP, va_K.moved hW.alike hK⟩, hS.F ht⟩) hS.2.2 dX4_chain_66
      · have h := h.2 c10
        refine lv_aload_n hx hb dX4_chain_36 rfl (lv_at hl 3 rfl) ?_
        refine lv_iload_n hx hb dX4_chain_37 rfl (lv_at hl 2 rfl) ?_
        refine x_cSi (As := [.ref (ad (5, j3)), .int x2]) (rest := []) ⟨hx, hb, hml, hown, hts⟩ hK hP hS (c_X4_endsChain l hAd hC σ j3 hj3 x2 _ h) (va_cwS 2 hts gX4_chain_X4_endsChain rfl rfl rfl (by decide +kernel) ⟨Nat.le_of_ble_eq_true rfl, Nat.le_of_ble_eq_true rfl⟩) rfl hl.1 rfl (Nat.le_of_ble_eq_true rfl) dX4_chain_38 ⟨Nat.zero_le _, Nat.zero_le _⟩ (fun r12 σ11 H locs h hP hS => ?_)
        refine lv_if_eq (tgt := 47) hx hb dX4_chain_41 (by decide) (fun c14 => ?_) (fun c14 => ?_)
        · have h := h.1 c14
          refine lv_aload_n hx hb dX4_chain_47 rfl (lv_at hl 0 rfl) ?_
          refine x_get (C := RX4) (T := TX4) (N := 4) (ci := 4) (a := 0) (k := 0) (v := .ref (ad (1, 0))) hx hb hts iw_X4_chain_X4 hown hK hP (in1 hC (a := 0) (by decide) (by decide)) rfl rfl 0 (by decide) (hts (.fieldLink RX4 11 "PageOwners" "all" "[LPageOwners$Node;") (by decide +kernel)) (fun _ h9 => h9) rfl dX4_chain_48 ?_
          refine lv_aload_n hx hb dX4_chain_51 rfl (lv_at hl 3 rfl) ?_
          refine x_get (C := RX3) (T := TX3) (N := 10) (ci := 3) (a := 5) (k := j3) (v := .ref (ad (9, j3))) hx hb hts iw_X4_chain_X3 hown hK hP (in6 hC (a := 5) (by decide) hj3) rfl rfl 4 (by decide) (hts (.fieldLink RX4 144 "PageOwners$Node" "guessOf" "[I") (by decide +kernel)) (fun _ h9 => h9) rfl dX4_chain_52 ?_
          refine lv_iload_n hx hb dX4_chain_55 rfl (lv_at hl 2 rfl) ?_
          have hin15 := h.1
          have h := h.2
          refine x_iald (a := 9) (k := j3) (n := 8) hx hb hK hP (in6 hC (a := 9) (by decide) hj3) (fun _ => rfl) hin15 dX4_chain_56 ?_
          have hin16 := h.1
          have h := h.2
          refine x_aldN hC hx hb hK hP hin16 dX4_chain_57 ?_
          refine lv_astore_n (lv' := [(3, .ref (ad (5, (ix (σ11.1 9 j3 (ix x2)))))), (0, .ref (ad (0, 0))), (1, .int x1), (2, .int x2), (4, .int y4)]) hx hb dX4_chain_58 rfl hl (by decide) rfl (fun ls hl => ?_)
          refine lv_iinc (v := (y4 + 1)) (lv' := [(4, .int (y4 + 1)), (3, .ref (ad (5, (ix (σ11.1 9 j3 (ix x2)))))), (0, .ref (ad (0, 0))), (1, .int x1), (2, .int x2)]) hx hb dX4_chain_59 hl (k := 4) rfl rfl (by decide) rfl (fun ls hl => ?_)
          refine lv_goto (tgt := 27) hx hb dX4_chain_62 (by decide) ?_
          exact ih σ11 (ix (σ11.1 9 j3 (ix x2))) (ix_lt hin16) (y4 + 1) _ _ _ h hP hS (lv_sub hl [2, 3, 4, 1, 0] rfl)
        · have h := h.2 c14
          refine lv_iload hx hb dX4_chain_44 (lv_at hl 4 rfl) ?_
          exact W.iret (v := y4) hx hb hr (fun t ht hW => ⟨⟨y4, σ11, rfl, h, by rw [ht]; exact hP, va_K.moved hW.alike hK⟩, hS.F ht⟩) hS.2.2 dX4_chain_46
  unfold wp_X4_chain at h
  refine lv_aload_n hx hb dX4_chain_0 rfl (lv_at hl 0 rfl) ?_
  refine lv_iload_n hx hb dX4_chain_1 rfl (lv_at hl 1 rfl) ?_
  refine x_cVi (C := RX4) (As := [.int x1]) (rest := []) ⟨hx, hb, hml, hown, hts⟩ hK hP hS (c_X4_isNode l hAd hC σ x1 _ h) (cwV 1 hts gX4_chain_X4_isNode rfl rfl rfl (by decide +kernel) ⟨Nat.le_of_ble_eq_true rfl, Nat.le_of_ble_eq_true rfl⟩) (x_recv hK hP (in1 hC (a := 0) (by decide) (by decide)) rfl rfl) rfl hl.1 rfl (Nat.le_of_ble_eq_true rfl) dX4_chain_2 ⟨Nat.zero_le _, Nat.zero_le _⟩ (fun r2 σ1 H locs h hP hS => ?_)
  refine lv_if_eq (tgt := 15) hx hb dX4_chain_5 (by decide) (fun c4 => ?_) (fun c4 => ?_)
  · have h := h.1 c4
    refine lv_iconst (v := (-1)) hx hb dX4_chain_15 (by decide) ?_
    exact W.iret (v := (-1)) hx hb hr (fun t ht hW => ⟨⟨(-1), σ1, rfl, h, by rw [ht]; exact hP, va_K.moved hW.alike hK⟩, hS.F ht⟩) hS.2.2 dX4_chain_16
  · have h := h.2 c4
    refine lv_iload_n hx hb dX4_chain_8 rfl (lv_at hl 2 rfl) ?_
    refine x_cSi (As := [.int x2]) (rest := []) ⟨hx, hb, hml, hown, hts⟩ hK hP hS (c_X4_isPage l hAd hC σ1 x2 _ h) (va_cwS 1 hts gX4_chain_X4_isPage rfl rfl rfl (by decide +kernel) ⟨Nat.le_of_ble_eq_true rfl, Nat.le_of_ble_eq_true rfl⟩) rfl hl.1 rfl (Nat.le_of_ble_eq_true rfl) dX4_chain_9 ⟨Nat.zero_le _, Nat.zero_le _⟩ (fun r6 σ5 H locs h hP hS => ?_)
    refine lv_if_ne (tgt := 17) hx hb dX4_chain_12 (by decide) (fun c8 => ?_) (fun c8 => ?_)
    · have h := h.2 c8
      refine lv_aload_n hx hb dX4_chain_17 rfl (lv_at hl 0 rfl) ?_
      refine x_get (C := RX4) (T := TX4) (N := 4) (ci := 4) (a := 0) (k := 0) (v := .ref (ad (1, 0))) hx hb hts iw_X4_chain_X4 hown hK hP (in1 hC (a := 0) (by decide) (by decide)) rfl rfl 0 (by decide) (hts (.fieldLink RX4 11 "PageOwners" "all" "[LPageOwners$Node;") (by decide +kernel)) (fun _ h9 => h9) rfl dX4_chain_18 ?_
      refine lv_iload_n hx hb dX4_chain_21 rfl (lv_at hl 1 rfl) ?_
      have hin9 := h.1
      have h := h.2
      refine x_aldN hC hx hb hK hP hin9 dX4_chain_22 ?_
      refine lv_astore_n (lv' := [(3, .ref (ad (5, (ix x1)))), (0, .ref (ad (0, 0))), (1, .int x1), (2, .int x2)]) hx hb dX4_chain_23 rfl hl (by decide) rfl (fun ls hl => ?_)
      refine lv_iconst (v := 0) hx hb dX4_chain_24 (by decide) ?_
      refine lv_istore (lv' := [(4, .int 0), (3, .ref (ad (5, (ix x1)))), (0, .ref (ad (0, 0))), (1, .int x1), (2, .int x2)]) hx hb dX4_chain_25 hl (by decide) rfl (fun ls hl => ?_)
      obtain ⟨n17, h⟩ := h
      exact L27 n17 σ5 (ix x1) (ix_lt hin9) 0 _ _ _ h hP hS (lv_sub hl [2, 3, 4, 1, 0] rfl)
    · have h := h.1 c8
      refine lv_iconst (v := (-1)) hx hb dX4_chain_15 (by decide) ?_
      exact W.iret (v := (-1)) hx hb hr (fun t ht hW => ⟨⟨(-1), σ5, rfl, h, by rw [ht]; exact hP, va_K.moved hW.alike hK⟩, hS.F ht⟩) hS.2.2 dX4_chain_16
theorem iw_X4_flying_X2 : ∀ w ∈ wsX20, w ∈ wsX4_flying := fun _ h => List.mem_cons_of_mem _ (List.mem_append_right _ h)
theorem iw_X4_flying_X4 : ∀ w ∈ wsX40, w ∈ wsX4_flying := fun _ h => List.mem_cons_of_mem _ (List.mem_append_left _ (List.mem_append_right _ h))
def wp_X4_flying (σ : Sg)  (Q : Sg → Int32 → Prop) : Prop := Q σ (σ.1 3 0 1)
abbrev rm_X4_flying : Room := { frames := 0, cells := 0, slots := 0, locals := 0 }
set_option maxHeartbeats 4000000 in
set_option maxRecDepth 100000 in
theorem c_X4_flying (l : Launch) {D : va_G} {P : List (Nat × Nat)} {ad : Nat × Nat → Nat} {cy : Nat → ClassId} (hAd : AdOk P ad) (hC : InC P) (σ : Sg)  (Q : Sg → Int32 → Prop) (h : wp_X4_flying σ  Q) : Met l yX4_flying wsX4_flying rm_X4_flying (xPc D P ad cy σ [.ref (ad (0, 0))]) (va_Qi (fun r σ' => Q σ' r) (xB D P ad cy) (Aof P ad)) 0 0 (Aof P ad) := by
  refine Met.ofW (cc := cX4_flying) (maxL := 1) (ret := (some .int)) (by decide +kernel) rfl ?_
  intro p e s m args below meth c s₁ B hml hv
  obtain ⟨rfl, hP, hK⟩ := hv
  have hx := B.exec
  have hb := B.bytes
  have hr := B.returns
  have hts := atoms_spec (ws := wsX4_flying) B.pre
  have hown : s.vm.findClass RX4 = some m.cls := findClass_of_methodNamed B.named
  have hlocks := B.notSynchronized
  have hS : va_S (Aof P ad) s.heap s.heap [] := va_S.rf
  have hl := lv_entry ([.ref (ad (0, 0))] : List Value) (n := 1) (Nat.le_of_ble_eq_true rfl)
  rw [lg_entry_eq]
  generalize (lg_sl ([.ref (ad (0, 0))] : List Value) ++ List.replicate (1 - (lg_sl ([.ref (ad (0, 0))] : List Value)).length) Slot.unset).toArray = ls at hl ⊢
  have hl : lv_has ls 1 [(0, .ref (ad (0, 0)))] := hl
  unfold wp_X4_flying at h
  refine lv_aload_n hx hb dX4_flying_0 rfl (lv_at hl 0 rfl) ?_
  refine x_get (C := RX4) (T := TX4) (N := 4) (ci := 4) (a := 0) (k := 0) (v := .ref (ad (3, 0))) hx hb hts iw_X4_flying_X4 hown hK hP (in1 hC (a := 0) (by decide) (by decide)) rfl rfl 1 (by decide) (hts (.fieldLink RX4 18 "PageOwners" "mail" "LPageOwners$Mail;") (by decide +kernel)) (fun _ h9 => h9) rfl dX4_flying_1 ?_
  refine x_get (C := RX2) (T := TX2) (N := 2) (ci := 2) (a := 3) (k := 0) (v := .int (σ.1 3 0 1)) hx hb hts iw_X4_flying_X2 hown hK hP (in1 hC (a := 3) (by decide) (by decide)) rfl rfl 1 (by decide) (hts (.fieldLink RX4 164 "PageOwners$Mail" "flying" "I") (by decide +kernel)) (fun _ h9 => h9) rfl dX4_flying_4 ?_
  exact W.iret (v := (σ.1 3 0 1)) hx hb hr (fun t ht hW => ⟨⟨(σ.1 3 0 1), σ, rfl, h, by rw [ht]; exact hP, va_K.moved hW.alike hK⟩, hS.F ht⟩) hS.2.2 dX4_flying_7
theorem iw_X4_letter_X1 : ∀ w ∈ wsX10, w ∈ wsX4_letter := fun _ h => List.mem_cons_of_mem _ (List.mem_append_right _ h)
theorem iw_X4_letter_X2 : ∀ w ∈ wsX20, w ∈ wsX4_letter := fun _ h => List.mem_cons_of_mem _ (List.mem_append_left _ (List.mem_append_right _ h))
theorem iw_X4_letter_X4 : ∀ w ∈ wsX40, w ∈ wsX4_letter := fun _ h => List.mem_cons_of_mem _ (List.mem_append_left _ (List.mem_append_left _ (List.mem_append_right _ h)))
def wp_X4_letter (σ : Sg) (x1 : Int32) (x2 : Int32) (Q : Sg → Int32 → Prop) : Prop := (wp_X2_has σ x1 (fun σ1 r2 => ((r2 = 0 → Q σ1 (-2)) ∧ (¬ (r2 = 0) → (vp_in x1 32 ∧ (σ1.2.2 (ix x1) < 32 ∧ ((x2 = 0 → Q σ1 (σ1.1 15 (σ1.2.2 (ix x1)) 0)) ∧ (¬ (x2 = 0) → ((x2 = 1 → Q σ1 (σ1.1 15 (σ1.2.2 (ix x1)) 1)) ∧ (¬ (x2 = 1) → ((x2 = 2 → Q σ1 (σ1.1 15 (σ1.2.2 (ix x1)) 2)) ∧ (¬ (x2 = 2) → ((x2 = 3 → Q σ1 (σ1.1 15 (σ1.2.2 (ix x1)) 3)) ∧ (¬ (x2 = 3) → ((x2 = 4 → Q σ1 (σ1.1 15 (σ1.2.2 (ix x1)) 4)) ∧ (¬ (x2 = 4) → ((x2 = 5 → Q σ1 (σ1.1 15 (σ1.2.2 (ix x1)) 5)) ∧ (¬ (x2 = 5) → Q σ1 (-2)))))))))))))))))))
abbrev rm_X4_letter : Room := { frames := 1, cells := 0, slots := 0, locals := 21 }
set_option maxHeartbeats 4000000 in
set_option maxRecDepth 100000 in
theorem c_X4_letter (l : Launch) {D : va_G} {P : List (Nat × Nat)} {ad : Nat × Nat → Nat} {cy : Nat → ClassId} (hAd : AdOk P ad) (hC : InC P) (σ : Sg) (x1 : Int32) (x2 : Int32) (Q : Sg → Int32 → Prop) (h : wp_X4_letter σ x1 x2 Q) : Met l yX4_letter wsX4_letter rm_X4_letter (xPc D P ad cy σ [.ref (ad (0, 0)), .int x1, .int x2]) (va_Qi (fun r σ' => Q σ' r) (xB D P ad cy) (Aof P ad)) 0 0 (Aof P ad) := by
  refine Met.ofW (cc := cX4_letter) (maxL := 4) (ret := (some .int)) (by decide +kernel) rfl ?_
  intro p e s m args below meth c s₁ B hml hv
  obtain ⟨rfl, hP, hK⟩ := hv
  have hx := B.exec
  have hb := B.bytes
  have hr := B.returns
  have hts := atoms_spec (ws := wsX4_letter) B.pre
  have hown : s.vm.findClass RX4 = some m.cls := findClass_of_methodNamed B.named
  have hlocks := B.notSynchronized
  have hS : va_S (Aof P ad) s.heap s.heap [] := va_S.rf
  have hl := lv_entry ([.ref (ad (0, 0)), .int x1, .int x2] : List Value) (n := 4) (Nat.le_of_ble_eq_true rfl)
  rw [lg_entry_eq]
  generalize (lg_sl ([.ref (ad (0, 0)), .int x1, .int x2] : List Value) ++ List.replicate (4 - (lg_sl ([.ref (ad (0, 0)), .int x1, .int x2] : List Value)).length) Slot.unset).toArray = ls at hl ⊢
  have hl : lv_has ls 4 [(0, .ref (ad (0, 0))), (1, .int x1), (2, .int x2)] := hl
  unfold wp_X4_letter at h
  refine lv_aload_n hx hb dX4_letter_0 rfl (lv_at hl 0 rfl) ?_
  refine x_get (C := RX4) (T := TX4) (N := 4) (ci := 4) (a := 0) (k := 0) (v := .ref (ad (3, 0))) hx hb hts iw_X4_letter_X4 hown hK hP (in1 hC (a := 0) (by decide) (by decide)) rfl rfl 1 (by decide) (hts (.fieldLink RX4 18 "PageOwners" "mail" "LPageOwners$Mail;") (by decide +kernel)) (fun _ h9 => h9) rfl dX4_letter_1 ?_
  refine lv_iload_n hx hb dX4_letter_4 rfl (lv_at hl 1 rfl) ?_
  refine x_cVi (C := RX2) (As := [.int x1]) (rest := []) ⟨hx, hb, hml, hown, hts⟩ hK hP hS (c_X2_has l hAd hC σ x1 _ h) (cwV 1 hts gX4_letter_X2_has rfl rfl rfl (by decide +kernel) ⟨Nat.le_of_ble_eq_true rfl, Nat.le_of_ble_eq_true rfl⟩) (x_recv hK hP (in1 hC (a := 3) (by decide) (by decide)) rfl rfl) rfl hl.1 rfl (Nat.le_of_ble_eq_true rfl) dX4_letter_5 ⟨Nat.zero_le _, Nat.zero_le _⟩ (fun r2 σ1 H locs h hP hS => ?_)
  refine lv_if_ne (tgt := 14) hx hb dX4_letter_8 (by decide) (fun c4 => ?_) (fun c4 => ?_)
  · have h := h.2 c4
    refine lv_aload_n hx hb dX4_letter_14 rfl (lv_at hl 0 rfl) ?_
    refine x_get (C := RX4) (T := TX4) (N := 4) (ci := 4) (a := 0) (k := 0) (v := .ref (ad (3, 0))) hx hb hts iw_X4_letter_X4 hown hK hP (in1 hC (a := 0) (by decide) (by decide)) rfl rfl 1 (by decide) (hts (.fieldLink RX4 18 "PageOwners" "mail" "LPageOwners$Mail;") (by decide +kernel)) (fun _ h9 => h9) rfl dX4_letter_15 ?_
    refine x_get (C := RX2) (T := TX2) (N := 2) (ci := 2) (a := 3) (k := 0) (v := .ref (ad (4, 0))) hx hb hts iw_X4_letter_X2 hown hK hP (in1 hC (a := 3) (by decide) (by decide)) rfl rfl 0 (by decide) (hts (.fieldLink RX4 167 "PageOwners$Mail" "row" "[LPageOwners$Letter;") (by decide +kernel)) (fun _ h9 => h9) rfl dX4_letter_18 ?_
    refine lv_iload_n hx hb dX4_letter_21 rfl (lv_at hl 1 rfl) ?_
    have hin6 := h.1
    have h := h.2
    have hq5 := h.1
    have h := h.2
    refine x_aldL hC hx hb hK hP hin6 dX4_letter_22 ?_
    refine lv_astore_n (lv' := [(3, .ref (ad (15, (σ1.2.2 (ix x1))))), (0, .ref (ad (0, 0))), (1, .int x1), (2, .int x2)]) hx hb dX4_letter_23 rfl hl (by decide) rfl (fun ls hl => ?_)
    refine lv_iload_n hx hb dX4_letter_24 rfl (lv_at hl 3 rfl) ?_
    by_cases c7 : x2 = 0
    · have h := h.1 c7
      refine lv_tableIn (off := 39) (tgt := 64) hx hb dX4_letter_25 (by rw [c7]; decide) (by rw [c7]; decide) (by rw [c7]; decide +kernel) (by decide) ?_
      refine lv_aload_n hx hb dX4_letter_64 rfl (lv_at hl 0 rfl) ?_
      refine x_get (C := RX1) (T := TX1) (N := 7) (ci := 1) (a := 15) (k := (σ1.2.2 (ix x1))) (v := .int (σ1.1 15 (σ1.2.2 (ix x1)) 0)) hx hb hts iw_X4_letter_X1 hown hK hP (in32 hC (a := 15) (by decide) hq5) rfl rfl 0 (by decide) (hts (.fieldLink RX4 85 "PageOwners$Letter" "kind" "I") (by decide +kernel)) (fun _ h9 => h9) rfl dX4_letter_65 ?_
      exact W.iret (v := (σ1.1 15 (σ1.2.2 (ix x1)) 0)) hx hb hr (fun t ht hW => ⟨⟨(σ1.1 15 (σ1.2.2 (ix x1)) 0), σ1, rfl, h, by rw [ht]; exact hP, va_K.moved hW.alike hK⟩, hS.F ht⟩) hS.2.2 dX4_letter_68
    · have h := h.2 c7
      by_cases c8 : x2 = 1
      · have h := h.1 c8
        refine lv_tableIn (off := 44) (tgt := 69) hx hb dX4_letter_25 (by rw [c8]; decide) (by rw [c8]; decide) (by rw [c8]; decide +kernel) (by decide) ?_
        refine lv_aload_n hx hb dX4_letter_69 rfl (lv_at hl 0 rfl) ?_
        refine x_get (C := RX1) (T := TX1) (N := 7) (ci := 1) (a := 15) (k := (σ1.2.2 (ix x1))) (v := .int (σ1.1 15 (σ1.2.2 (ix x1)) 1)) hx hb hts iw_X4_letter_X1 hown hK hP (in32 hC (a := 15) (by decide) hq5) rfl rfl 1 (by decide) (hts (.fieldLink RX4 105 "PageOwners$Letter" "from" "I") (by decide +kernel)) (fun _ h9 => h9) rfl dX4_letter_70 ?_
        exact W.iret (v := (σ1.1 15 (σ1.2.2 (ix x1)) 1)) hx hb hr (fun t ht hW => ⟨⟨(σ1.1 15 (σ1.2.2 (ix x1)) 1), σ1, rfl, h, by rw [ht]; exact hP, va_K.moved hW.alike hK⟩, hS.F ht⟩) hS.2.2 dX4_letter_73
      · have h := h.2 c8
        by_cases c9 : x2 = 2
        · have h := h.1 c9
          refine lv_tableIn (off := 49) (tgt := 74) hx hb dX4_letter_25 (by rw [c9]; decide) (by rw [c9]; decide) (by rw [c9]; decide +kernel) (by decide) ?_
          refine lv_aload_n hx hb dX4_letter_74 rfl (lv_at hl 0 rfl) ?_
          refine x_get (C := RX1) (T := TX1) (N := 7) (ci := 1) (a := 15) (k := (σ1.2.2 (ix x1))) (v := .int (σ1.1 15 (σ1.2.2 (ix x1)) 2)) hx hb hts iw_X4_letter_X1 hown hK hP (in32 hC (a := 15) (by decide) hq5) rfl rfl 2 (by decide) (hts (.fieldLink RX4 79 "PageOwners$Letter" "to" "I") (by decide +kernel)) (fun _ h9 => h9) rfl dX4_letter_75 ?_
          exact W.iret (v := (σ1.1 15 (σ1.2.2 (ix x1)) 2)) hx hb hr (fun t ht hW => ⟨⟨(σ1.1 15 (σ1.2.2 (ix x1)) 2), σ1, rfl, h, by rw [ht]; exact hP, va_K.moved hW.alike hK⟩, hS.F ht⟩) hS.2.2 dX4_letter_78
        · have h := h.2 c9
          by_cases c10 : x2 = 3
          · have h := h.1 c10
            refine lv_tableIn (off := 54) (tgt := 79) hx hb dX4_letter_25 (by rw [c10]; decide) (by rw [c10]; decide) (by rw [c10]; decide +kernel) (by decide) ?_
            refine lv_aload_n hx hb dX4_letter_79 rfl (lv_at hl 0 rfl) ?_
            refine x_get (C := RX1) (T := TX1) (N := 7) (ci := 1) (a := 15) (k := (σ1.2.2 (ix x1))) (v := .int (σ1.1 15 (σ1.2.2 (ix x1)) 3)) hx hb hts iw_X4_letter_X1 hown hK hP (in32 hC (a := 15) (by decide) hq5) rfl rfl 3 (by decide) (hts (.fieldLink RX4 88 "PageOwners$Letter" "page" "I") (by decide +kernel)) (fun _ h9 => h9) rfl dX4_letter_80 ?_
            exact W.iret (v := (σ1.1 15 (σ1.2.2 (ix x1)) 3)) hx hb hr (fun t ht hW => ⟨⟨(σ1.1 15 (σ1.2.2 (ix x1)) 3), σ1, rfl, h, by rw [ht]; exact hP, va_K.moved hW.alike hK⟩, hS.F ht⟩) hS.2.2 dX4_letter_83
          · have h := h.2 c10
            by_cases c11 : x2 = 4
            · have h := h.1 c11
              refine lv_tableIn (off := 59) (tgt := 84) hx hb dX4_letter_25 (by rw [c11]; decide) (by rw [c11]; decide) (by rw [c11]; decide +kernel) (by decide) ?_
              refine lv_aload_n hx hb dX4_letter_84 rfl (lv_at hl 0 rfl) ?_
              refine x_get (C := RX1) (T := TX1) (N := 7) (ci := 1) (a := 15) (k := (σ1.2.2 (ix x1))) (v := .int (σ1.1 15 (σ1.2.2 (ix x1)) 4)) hx hb hts iw_X4_letter_X1 hown hK hP (in32 hC (a := 15) (by decide) hq5) rfl rfl 4 (by decide) (hts (.fieldLink RX4 91 "PageOwners$Letter" "asker" "I") (by decide +kernel)) (fun _ h9 => h9) rfl dX4_letter_85 ?_
              exact W.iret (v := (σ1.1 15 (σ1.2.2 (ix x1)) 4)) hx hb hr (fun t ht hW => ⟨⟨(σ1.1 15 (σ1.2.2 (ix x1)) 4), σ1, rfl, h, by rw [ht]; exact hP, va_K.moved hW.alike hK⟩, hS.F ht⟩) hS.2.2 dX4_letter_88
            · have h := h.2 c11
              by_cases c12 : x2 = 5
              · have h := h.1 c12
                refine lv_tableIn (off := 64) (tgt := 89) hx hb dX4_letter_25 (by rw [c12]; decide) (by rw [c12]; decide) (by rw [c12]; decide +kernel) (by decide) ?_
                refine lv_aload_n hx hb dX4_letter_89 rfl (lv_at hl 0 rfl) ?_
                refine x_get (C := RX1) (T := TX1) (N := 7) (ci := 1) (a := 15) (k := (σ1.2.2 (ix x1))) (v := .int (σ1.1 15 (σ1.2.2 (ix x1)) 5)) hx hb hts iw_X4_letter_X1 hown hK hP (in32 hC (a := 15) (by decide) hq5) rfl rfl 5 (by decide) (hts (.fieldLink RX4 171 "PageOwners$Letter" "copySet" "I") (by decide +kernel)) (fun _ h9 => h9) rfl dX4_letter_90 ?_
                exact W.iret (v := (σ1.1 15 (σ1.2.2 (ix x1)) 5)) hx hb hr (fun t ht hW => ⟨⟨(σ1.1 15 (σ1.2.2 (ix x1)) 5), σ1, rfl, h, by rw [ht]; exact hP, va_K.moved hW.alike hK⟩, hS.F ht⟩) hS.2.2 dX4_letter_93
              · have h := h.2 c12
                have n13 : x2.toInt < 0 ∨ 5 < x2.toInt := by
                  have := lv_neT (k := 0) (a := 0) c7 rfl
                  have := lv_neT (k := 1) (a := 1) c8 rfl
                  have := lv_neT (k := 2) (a := 2) c9 rfl
                  have := lv_neT (k := 3) (a := 3) c10 rfl
                  have := lv_neT (k := 4) (a := 4) c11 rfl
                  have := lv_neT (k := 5) (a := 5) c12 rfl
                  omega
                refine lv_tableOut (tgt := 94) hx hb dX4_letter_25 n13 (by decide) ?_
                refine lv_bipush (v := (-2)) hx hb dX4_letter_94 (by decide) ?_
                exact W.iret (v := (-2)) hx hb hr (fun t ht hW => ⟨⟨(-2), σ1, rfl, h, by rw [ht]; exact hP, va_K.moved hW.alike hK⟩, hS.F ht⟩) hS.2.2 dX4_letter_96
  · have h := h.1 c4
    refine lv_bipush (v := (-2)) hx hb dX4_letter_11 (by decide) ?_
    exact W.iret (v := (-2)) hx hb hr (fun t ht hW => ⟨⟨(-2), σ1, rfl, h, by rw [ht]; exact hP, va_K.moved hW.alike hK⟩, hS.F ht⟩) hS.2.2 dX4_letter_13
theorem iw_X4_letterWord_X1 : ∀ w ∈ wsX10, w ∈ wsX4_letterWord := fun _ h => List.mem_cons_of_mem _ (List.mem_append_right _ h)
theorem iw_X4_letterWord_X2 : ∀ w ∈ wsX20, w ∈ wsX4_letterWord := fun _ h => List.mem_cons_of_mem _ (List.mem_append_left _ (List.mem_append_right _ h))
theorem iw_X4_letterWord_X4 : ∀ w ∈ wsX40, w ∈ wsX4_letterWord := fun _ h => List.mem_cons_of_mem _ (List.mem_append_left _ (List.mem_append_left _ (List.mem_append_right _ h)))
def wp_X4_letterWord (σ : Sg) (x1 : Int32) (x2 : Int32) (Q : Sg → Int64 → Prop) : Prop := (wp_X2_has σ x1 (fun σ1 r2 => ((r2 = 0 → Q σ1 0) ∧ (¬ (r2 = 0) → (wp_X4_isWord σ1 x2 (fun σ5 r6 => ((r6 = 0 → Q σ5 0) ∧ (¬ (r6 = 0) → (vp_in x1 32 ∧ (σ5.2.2 (ix x1) < 32 ∧ (((σ5.1 15 (σ5.2.2 (ix x1)) 0) = 3 → (vp_in x2 4 ∧ Q σ5 (σ5.2.1 16 (σ5.2.2 (ix x1)) (ix x2)))) ∧ (¬ ((σ5.1 15 (σ5.2.2 (ix x1)) 0) = 3) → (((σ5.1 15 (σ5.2.2 (ix x1)) 0) = 4 → (vp_in x2 4 ∧ Q σ5 (σ5.2.1 16 (σ5.2.2 (ix x1)) (ix x2)))) ∧ (¬ ((σ5.1 15 (σ5.2.2 (ix x1)) 0) = 4) → Q σ5 0))))))))))))))
abbrev rm_X4_letterWord : Room := { frames := 1, cells := 0, slots := 0, locals := 21 }
set_option maxHeartbeats 4000000 in
set_option maxRecDepth 100000 in
theorem c_X4_letterWord (l : Launch) {D : va_G} {P : List (Nat × Nat)} {ad : Nat × Nat → Nat} {cy : Nat → ClassId} (hAd : AdOk P ad) (hC : InC P) (σ : Sg) (x1 : Int32) (x2 : Int32) (Q : Sg → Int64 → Prop) (h : wp_X4_letterWord σ x1 x2 Q) : Met l yX4_letterWord wsX4_letterWord rm_X4_letterWord (xPc D P ad cy σ [.ref (ad (0, 0)), .int x1, .int x2]) (va_Ql (fun r σ' => Q σ' r) (xB D P ad cy) (Aof P ad)) 0 0 (Aof P ad) := by
  refine Met.ofW (cc := cX4_letterWord) (maxL := 4) (ret := (some .long)) (by decide +kernel) rfl ?_
  intro p e s m args below meth c s₁ B hml hv
  obtain ⟨rfl, hP, hK⟩ := hv
  have hx := B.exec
  have hb := B.bytes
  have hr := B.returns
  have hts := atoms_spec (ws := wsX4_letterWord) B.pre
  have hown : s.vm.findClass RX4 = some m.cls := findClass_of_methodNamed B.named
  have hlocks := B.notSynchronized
  have hS : va_S (Aof P ad) s.heap s.heap [] := va_S.rf
  have hl := lv_entry ([.ref (ad (0, 0)), .int x1, .int x2] : List Value) (n := 4) (Nat.le_of_ble_eq_true rfl)
  rw [lg_entry_eq]
  generalize (lg_sl ([.ref (ad (0, 0)), .int x1, .int x2] : List Value) ++ List.replicate (4 - (lg_sl ([.ref (ad (0, 0)), .int x1, .int x2] : List Value)).length) Slot.unset).toArray = ls at hl ⊢
  have hl : lv_has ls 4 [(0, .ref (ad (0, 0))), (1, .int x1), (2, .int x2)] := hl
  unfold wp_X4_letterWord at h
  refine lv_aload_n hx hb dX4_letterWord_0 rfl (lv_at hl 0 rfl) ?_
  refine x_get (C := RX4) (T := TX4) (N := 4) (ci := 4) (a := 0) (k := 0) (v := .ref (ad (3, 0))) hx hb hts iw_X4_letterWord_X4 hown hK hP (in1 hC (a := 0) (by decide) (by decide)) rfl rfl 1 (by decide) (hts (.fieldLink RX4 18 "PageOwners" "mail" "LPageOwners$Mail;") (by decide +kernel)) (fun _ h9 => h9) rfl dX4_letterWord_1 ?_
  refine lv_iload_n hx hb dX4_letterWord_4 rfl (lv_at hl 1 rfl) ?_
  refine x_cVi (C := RX2) (As := [.int x1]) (rest := []) ⟨hx, hb, hml, hown, hts⟩ hK hP hS (c_X2_has l hAd hC σ x1 _ h) (cwV 1 hts gX4_letterWord_X2_has rfl rfl rfl (by decide +kernel) ⟨Nat.le_of_ble_eq_true rfl, Nat.le_of_ble_eq_true rfl⟩) (x_recv hK hP (in1 hC (a := 3) (by decide) (by decide)) rfl rfl) rfl hl.1 rfl (Nat.le_of_ble_eq_true rfl) dX4_letterWord_5 ⟨Nat.zero_le _, Nat.zero_le _⟩ (fun r2 σ1 H locs h hP hS => ?_)
  refine lv_if_eq (tgt := 18) hx hb dX4_letterWord_8 (by decide) (fun c4 => ?_) (fun c4 => ?_)
  · have h := h.1 c4
    refine lv_lconst (v := 0) hx hb dX4_letterWord_18 (by decide) ?_
    exact W.lret (v := 0) hx hb hr (fun t ht hW => ⟨⟨0, σ1, rfl, h, by rw [ht]; exact hP, va_K.moved hW.alike hK⟩, hS.F ht⟩) hS.2.2 dX4_letterWord_19
  · have h := h.2 c4
    refine lv_iload_n hx hb dX4_letterWord_11 rfl (lv_at hl 2 rfl) ?_
    refine x_cSi (As := [.int x2]) (rest := []) ⟨hx, hb, hml, hown, hts⟩ hK hP hS (c_X4_isWord l hAd hC σ1 x2 _ h) (va_cwS 1 hts gX4_letterWord_X4_isWord rfl rfl rfl (by decide +kernel) ⟨Nat.le_of_ble_eq_true rfl, Nat.le_of_ble_eq_true rfl⟩) rfl hl.1 rfl (Nat.le_of_ble_eq_true rfl) dX4_letterWord_12 ⟨Nat.zero_le _, Nat.zero_le _⟩ (fun r6 σ5 H locs h hP hS => ?_)
    refine lv_if_ne (tgt := 20) hx hb dX4_letterWord_15 (by decide) (fun c8 => ?_) (fun c8 => ?_)
    · have h := h.2 c8
      refine lv_aload_n hx hb dX4_letterWord_20 rfl (lv_at hl 0 rfl) ?_
      refine x_get (C := RX4) (T := TX4) (N := 4) (ci := 4) (a := 0) (k := 0) (v := .ref (ad (3, 0))) hx hb hts iw_X4_letterWord_X4 hown hK hP (in1 hC (a := 0) (by decide) (by decide)) rfl rfl 1 (by decide) (hts (.fieldLink RX4 18 "PageOwners" "mail" "LPageOwners$Mail;") (by decide +kernel)) (fun _ h9 => h9) rfl dX4_letterWord_21 ?_
      refine x_get (C := RX2) (T := TX2) (N := 2) (ci := 2) (a := 3) (k := 0) (v := .ref (ad (4, 0))) hx hb hts iw_X4_letterWord_X2 hown hK hP (in1 hC (a := 3) (by decide) (by decide)) rfl rfl 0 (by decide) (hts (.fieldLink RX4 167 "PageOwners$Mail" "row" "[LPageOwners$Letter;") (by decide +kernel)) (fun _ h9 => h9) rfl dX4_letterWord_24 ?_
      refine lv_iload_n hx hb dX4_letterWord_27 rfl (lv_at hl 1 rfl) ?_
      have hin10 := h.1
      have h := h.2
      have hq9 := h.1
      have h := h.2
      refine x_aldL hC hx hb hK hP hin10 dX4_letterWord_28 ?_
      refine lv_astore_n (lv' := [(3, .ref (ad (15, (σ5.2.2 (ix x1))))), (0, .ref (ad (0, 0))), (1, .int x1), (2, .int x2)]) hx hb dX4_letterWord_29 rfl hl (by decide) rfl (fun ls hl => ?_)
      refine lv_aload_n hx hb dX4_letterWord_30 rfl (lv_at hl 0 rfl) ?_
      refine x_get (C := RX1) (T := TX1) (N := 7) (ci := 1) (a := 15) (k := (σ5.2.2 (ix x1))) (v := .int (σ5.1 15 (σ5.2.2 (ix x1)) 0)) hx hb hts iw_X4_letterWord_X1 hown hK hP (in32 hC (a := 15) (by decide) hq9) rfl rfl 0 (by decide) (hts (.fieldLink RX4 85 "PageOwners$Letter" "kind" "I") (by decide +kernel)) (fun _ h9 => h9) rfl dX4_letterWord_31 ?_
      refine lv_iconst (v := 3) hx hb dX4_letterWord_34 (by decide) ?_
      refine lv_icmp_eq (tgt := 46) hx hb dX4_letterWord_35 (by decide) (fun c11 => ?_) (fun c11 => ?_)
      · have h := h.1 c11
        refine lv_aload_n hx hb dX4_letterWord_46 rfl (lv_at hl 0 rfl) ?_
        refine x_get (C := RX1) (T := TX1) (N := 7) (ci := 1) (a := 15) (k := (σ5.2.2 (ix x1))) (v := .ref (ad (16, (σ5.2.2 (ix x1))))) hx hb hts iw_X4_letterWord_X1 hown hK hP (in32 hC (a := 15) (by decide) hq9) rfl rfl 6 (by decide) (hts (.fieldLink RX4 173 "PageOwners$Letter" "words" "[J") (by decide +kernel)) (fun _ h9 => h9) rfl dX4_letterWord_47 ?_
        refine lv_iload_n hx hb dX4_letterWord_50 rfl (lv_at hl 3 rfl) ?_
        have hin12 := h.1
        have h := h.2
        refine x_lald (a := 16) (k := (σ5.2.2 (ix x1))) (n := 4) hx hb hK hP (in32 hC (a := 16) (by decide) hq9) (fun _ => rfl) hin12 dX4_letterWord_51 ?_
        refine lv_goto (tgt := 56) hx hb dX4_letterWord_52 (by decide) ?_
        exact W.lret (v := (σ5.2.1 16 (σ5.2.2 (ix x1)) (ix x2))) hx hb hr (fun t ht hW => ⟨⟨(σ5.2.1 16 (σ5.2.2 (ix x1)) (ix x2)), σ5, rfl, h, by rw [ht]; exact hP, va_K.moved hW.alike hK⟩, hS.F ht⟩) hS.2.2 dX4_letterWord_56
      · have h := h.2 c11
        refine lv_aload_n hx hb dX4_letterWord_38 rfl (lv_at hl 0 rfl) ?_
        refine x_get (C := RX1) (T := TX1) (N := 7) (ci := 1) (a := 15) (k := (σ5.2.2 (ix x1))) (v := .int (σ5.1 15 (σ5.2.2 (ix x1)) 0)) hx hb hts iw_X4_letterWord_X1 hown hK hP (in32 hC (a := 15) (by decide) hq9) rfl rfl 0 (by decide) (hts (.fieldLink RX4 85 "PageOwners$Letter" "kind" "I") (by decide +kernel)) (fun _ h9 => h9) rfl dX4_letterWord_39 ?_
        refine lv_iconst (v := 4) hx hb dX4_letterWord_42 (by decide) ?_
        refine lv_icmp_ne (tgt := 55) hx hb dX4_letterWord_43 (by decide) (fun c13 => ?_) (fun c13 => ?_)
        · have h := h.2 c13
          refine lv_lconst (v := 0) hx hb dX4_letterWord_55 (by decide) ?_
          exact W.lret (v := 0) hx hb hr (fun t ht hW => ⟨⟨0, σ5, rfl, h, by rw [ht]; exact hP, va_K.moved hW.alike hK⟩, hS.F ht⟩) hS.2.2 dX4_letterWord_56
        · have h := h.1 c13
          refine lv_aload_n hx hb dX4_letterWord_46 rfl (lv_at hl 0 rfl) ?_
          refine x_get (C := RX1) (T := TX1) (N := 7) (ci := 1) (a := 15) (k := (σ5.2.2 (ix x1))) (v := .ref (ad (16, (σ5.2.2 (ix x1))))) hx hb hts iw_X4_letterWord_X1 hown hK hP (in32 hC (a := 15) (by decide) hq9) rfl rfl 6 (by decide) (hts (.fieldLink RX4 173 "PageOwners$Letter" "words" "[J") (by decide +kernel)) (fun _ h9 => h9) rfl dX4_letterWord_47 ?_
          refine lv_iload_n hx hb dX4_letterWord_50 rfl (lv_at hl 3 rfl) ?_
          have hin14 := h.1
          have h := h.2
          refine x_lald (a := 16) (k := (σ5.2.2 (ix x1))) (n := 4) hx hb hK hP (in32 hC (a := 16) (by decide) hq9) (fun _ => rfl) hin14 dX4_letterWord_51 ?_
          refine lv_goto (tgt := 56) hx hb dX4_letterWord_52 (by decide) ?_
          exact W.lret (v := (σ5.2.1 16 (σ5.2.2 (ix x1)) (ix x2))) hx hb hr (fun t ht hW => ⟨⟨(σ5.2.1 16 (σ5.2.2 (ix x1)) (ix x2)), σ5, rfl, h, by rw [ht]; exact hP, va_K.moved hW.alike hK⟩, hS.F ht⟩) hS.2.2 dX4_letterWord_56
    · have h := h.1 c8
      refine lv_lconst (v := 0) hx hb dX4_letterWord_18 (by decide) ?_
      exact W.lret (v := 0) hx hb hr (fun t ht hW => ⟨⟨0, σ5, rfl, h, by rw [ht]; exact hP, va_K.moved hW.alike hK⟩, hS.F ht⟩) hS.2.2 dX4_letterWord_19
theorem iw_X4_count_X4 : ∀ w ∈ wsX40, w ∈ wsX4_count := fun _ h => List.mem_cons_of_mem _ (List.mem_append_right _ h)
def wp_X4_count (σ : Sg) (x1 : Int32) (Q : Sg → Int32 → Prop) : Prop := ((x1 < 0 → Q σ (-1)) ∧ (¬ (x1 < 0) → ((8 ≤ x1 → Q σ (-1)) ∧ (¬ (8 ≤ x1) → (vp_in x1 8 ∧ Q σ (σ.1 2 0 (ix x1)))))))
abbrev rm_X4_count : Room := { frames := 0, cells := 0, slots := 0, locals := 0 }
set_option maxHeartbeats 4000000 in
set_option maxRecDepth 100000 in
theorem c_X4_count (l : Launch) {D : va_G} {P : List (Nat × Nat)} {ad : Nat × Nat → Nat} {cy : Nat → ClassId} (hAd : AdOk P ad) (hC : InC P) (σ : Sg) (x1 : Int32) (Q : Sg → Int32 → Prop) (h : wp_X4_count σ x1 Q) : Met l yX4_count wsX4_count rm_X4_count (xPc D P ad cy σ [.ref (ad (0, 0)), .int x1]) (va_Qi (fun r σ' => Q σ' r) (xB D P ad cy) (Aof P ad)) 0 0 (Aof P ad) := by
  refine Met.ofW (cc := cX4_count) (maxL := 2) (ret := (some .int)) (by decide +kernel) rfl ?_
  intro p e s m args below meth c s₁ B hml hv
  obtain ⟨rfl, hP, hK⟩ := hv
  have hx := B.exec
  have hb := B.bytes
  have hr := B.returns
  have hts := atoms_spec (ws := wsX4_count) B.pre
  have hown : s.vm.findClass RX4 = some m.cls := findClass_of_methodNamed B.named
  have hlocks := B.notSynchronized
  have hS : va_S (Aof P ad) s.heap s.heap [] := va_S.rf
  have hl := lv_entry ([.ref (ad (0, 0)), .int x1] : List Value) (n := 2) (Nat.le_of_ble_eq_true rfl)
  rw [lg_entry_eq]
  generalize (lg_sl ([.ref (ad (0, 0)), .int x1] : List Value) ++ List.replicate (2 - (lg_sl ([.ref (ad (0, 0)), .int x1] : List Value)).length) Slot.unset).toArray = ls at hl ⊢
  have hl : lv_has ls 2 [(0, .ref (ad (0, 0))), (1, .int x1)] := hl
  unfold wp_X4_count at h
  refine lv_iload_n hx hb dX4_count_0 rfl (lv_at hl 1 rfl) ?_
  refine lv_if_lt (tgt := 19) hx hb dX4_count_1 (by decide) (fun c1 => ?_) (fun c1 => ?_)
  · have h := h.1 c1
    refine lv_iconst (v := (-1)) hx hb dX4_count_19 (by decide) ?_
    exact W.iret (v := (-1)) hx hb hr (fun t ht hW => ⟨⟨(-1), σ, rfl, h, by rw [ht]; exact hP, va_K.moved hW.alike hK⟩, hS.F ht⟩) hS.2.2 dX4_count_20
  · have h := h.2 c1
    refine lv_iload_n hx hb dX4_count_4 rfl (lv_at hl 1 rfl) ?_
    refine lv_bipush (v := 8) hx hb dX4_count_5 (by decide) ?_
    refine lv_icmp_ge (tgt := 19) hx hb dX4_count_7 (by decide) (fun c2 => ?_) (fun c2 => ?_)
    · have h := h.1 c2
      refine lv_iconst (v := (-1)) hx hb dX4_count_19 (by decide) ?_
      exact W.iret (v := (-1)) hx hb hr (fun t ht hW => ⟨⟨(-1), σ, rfl, h, by rw [ht]; exact hP, va_K.moved hW.alike hK⟩, hS.F ht⟩) hS.2.2 dX4_count_20
    · have h := h.2 c2
      refine lv_aload_n hx hb dX4_count_10 rfl (lv_at hl 0 rfl) ?_
      refine x_get (C := RX4) (T := TX4) (N := 4) (ci := 4) (a := 0) (k := 0) (v := .ref (ad (2, 0))) hx hb hts iw_X4_count_X4 hown hK hP (in1 hC (a := 0) (by decide) (by decide)) rfl rfl 2 (by decide) (hts (.fieldLink RX4 22 "PageOwners" "counts" "[I") (by decide +kernel)) (fun _ h9 => h9) rfl dX4_count_11 ?_
      refine lv_iload_n hx hb dX4_count_14 rfl (lv_at hl 1 rfl) ?_
      have hin3 := h.1
      have h := h.2
      refine x_iald (a := 2) (k := 0) (n := 8) hx hb hK hP (in1 hC (a := 2) (by decide) (by decide)) (fun _ => rfl) hin3 dX4_count_15 ?_
      refine lv_goto (tgt := 20) hx hb dX4_count_16 (by decide) ?_
      exact W.iret (v := (σ.1 2 0 (ix x1))) hx hb hr (fun t ht hW => ⟨⟨(σ.1 2 0 (ix x1)), σ, rfl, h, by rw [ht]; exact hP, va_K.moved hW.alike hK⟩, hS.F ht⟩) hS.2.2 dX4_count_20
