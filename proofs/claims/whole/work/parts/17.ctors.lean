set_option maxHeartbeats 4000000 in
set_option maxRecDepth 100000 in
/-- Hand(): nothing changes -/
theorem c_X0_init (l : Launch) {D : va_G} {P : List (Nat × Nat)} {ad : Nat × Nat → Nat} {g : Nat × Nat → va_E} {cy : Nat → ClassId} (h0 sz : Nat) : Met l yX0_init wsX0_init { frames := 1, cells := 0, slots := 0, locals := 12 } (va_Pc [.ref h0] (fun U => U.heap.size = sz ∧ YW D (fun _ => True) P ad g U.heap ∧ Kx D cy U)) (va_Qv (fun _ : Unit => True) (fun _ t => YW D (AX P ad sz) P ad g t.heap) (AX P ad sz)) 0 0 (AX P ad sz) := by
  refine Met.ofW (cc := cX0_init) (maxL := 1) (ret := none) (by decide) rfl ?_
  intro p e s m args below meth c s₁ B hml hv
  obtain ⟨rfl, hsz, hY, hKx⟩ := hv
  have hK := hKx.1
  have hx := B.exec
  have hb := B.bytes
  have hr := B.returns
  have hts := atoms_spec (ws := wsX0_init) B.pre
  have hown : s.vm.findClass RX0 = some m.cls := findClass_of_methodNamed B.named
  have hlocks := B.notSynchronized
  have hin : meth.name = "<init>" := (name_of_methodNamed B.named B.method).1
  subst hsz
  have hY := hY.self s.heap.size
  generalize hAe : AX P ad s.heap.size = A at hY ⊢
  have hA : ∀ q : Nat, s.heap.size ≤ q → A q := fun q h => by rw [← hAe]; exact Or.inr h
  have hS : va_S A s.heap s.heap [] := va_S.rf
  have hl := lv_entry ([.ref h0] : List Value) (n := 1) (Nat.le_of_ble_eq_true rfl)
  rw [lg_entry_eq]
  generalize (lg_sl ([.ref h0] : List Value) ++ List.replicate (1 - (lg_sl ([.ref h0] : List Value)).length) Slot.unset).toArray = ls at hl ⊢
  have hl : lv_has ls 1 [(0, .ref h0)] := hl
  refine lv_aload_n hx hb dX0_init_0 rfl (lv_at hl 0 rfl) ?_
  refine W.objInit hx hb hown (hts (.methodLink RX0 3 objectInit) (by decide +kernel)) (hts (.instanceMethod objectInit) (by decide +kernel)) (hts (.code objectInit ⟨#[0xb1]⟩ 1 none) (by decide +kernel)) rfl (by rw [hml]; exact hl.1) rfl dX0_init_1 (Nat.le_of_ble_eq_true rfl) (Nat.le_of_ble_eq_true rfl) ?_
  refine W.eq (g2 := F0 m 4 ls []) rfl ?_
  exact W.vret hx hb hr (fun t ht hW => ⟨⟨(), rfl, trivial, (congrArg (YW D A P ad g) ht).mpr hY⟩, hS.F ht⟩) hS.2.2 dX0_init_4

theorem iw_X1_init_X1 : ∀ w ∈ wsX10, w ∈ wsX1_init := fun _ h => List.mem_cons_of_mem _ (List.mem_append_right _ h)
/-- a new letter, before and behind its constructor -/
abbrev e15r : va_E := .inr (1, [.int 0, .int 0, .int 0, .int 0, .int 0, .int 0, .null])
abbrev e15 (q : Nat) : va_E := .inr (1, [.int 0, .int 0, .int 0, .int 0, .int 0, .int 0, .ref q])
abbrev e16 (cy : Nat → ClassId) : va_E := .inl (cy 1, 4, .inr (.inl (fun _ => 0)))
set_option maxHeartbeats 4000000 in
set_option maxRecDepth 100000 in
theorem c_X1_init (l : Launch) {D : va_G} {P : List (Nat × Nat)} {ad : Nat × Nat → Nat} {g : Nat × Nat → va_E} {cy : Nat → ClassId} (x h0 sz : Nat) (hi : (15, x) ∈ P) (h0e : ad (15, x) = h0) (he : g (15, x) = e15r) (hf : (16, x) ∉ P) : Met l yX1_init wsX1_init { frames := 1, cells := 1, slots := 4, locals := 12 } (va_Pc [.ref h0] (fun U => U.heap.size = sz ∧ YW D (fun _ => True) P ad g U.heap ∧ Kx D cy U)) (va_Qv (fun _ : Nat => True) (fun q t => YW D (AX P ad sz) (P ++ [(16, x)]) (uA ad (16, x) q) (uG (uG g (16, x) (e16 cy)) (15, x) (e15 q)) t.heap) (AX P ad sz)) 1 4 (AX P ad sz) := by
  refine Met.ofW (cc := cX1_init) (maxL := 1) (ret := none) (by decide) rfl ?_
  intro p e s m args below meth c s₁ B hml hv
  obtain ⟨rfl, hsz, hY, hKx⟩ := hv
  have hK := hKx.1
  have hx := B.exec
  have hb := B.bytes
  have hr := B.returns
  have hts := atoms_spec (ws := wsX1_init) B.pre
  have hown : s.vm.findClass RX1 = some m.cls := findClass_of_methodNamed B.named
  have hlocks := B.notSynchronized
  have hin : meth.name = "<init>" := (name_of_methodNamed B.named B.method).1
  subst hsz
  have hY := hY.self s.heap.size
  generalize hAe : AX P ad s.heap.size = A at hY ⊢
  have hA : ∀ q : Nat, s.heap.size ≤ q → A q := fun q h => by rw [← hAe]; exact Or.inr h
  have hS : va_S A s.heap s.heap [] := va_S.rf
  have hl := lv_entry ([.ref h0] : List Value) (n := 1) (Nat.le_of_ble_eq_true rfl)
  rw [lg_entry_eq]
  generalize (lg_sl ([.ref h0] : List Value) ++ List.replicate (1 - (lg_sl ([.ref h0] : List Value)).length) Slot.unset).toArray = ls at hl ⊢
  have hl : lv_has ls 1 [(0, .ref h0)] := hl
  refine lv_aload_n hx hb dX1_init_0 rfl (lv_at hl 0 rfl) ?_
  refine W.objInit hx hb hown (hts (.methodLink RX1 3 objectInit) (by decide +kernel)) (hts (.instanceMethod objectInit) (by decide +kernel)) (hts (.code objectInit ⟨#[0xb1]⟩ 1 none) (by decide +kernel)) rfl (by rw [hml]; exact hl.1) rfl dX1_init_1 (Nat.le_of_ble_eq_true rfl) (Nat.le_of_ble_eq_true rfl) ?_
  refine W.eq (g2 := F0 m 4 ls []) rfl ?_
  refine lv_aload_n hx hb dX1_init_4 rfl (lv_at hl 0 rfl) ?_
  refine lv_iconst (v := 4) hx hb dX1_init_5 (by decide) ?_
  refine y_newa (atype := .long) (n := 4) (ty := .long) (N' := 4) (a0 := (4, .inr (.inl (fun _ => 0)))) hx hb (hts (.arrayClass .long) (by decide +kernel)) rfl hK hY hS hA 1 rfl (ra_p (Or.inr (Or.inl rfl))) (fun _ => rfl) (by decide) (by decide) (by show 4 * 8 ≤ 536870912; omega) (Nat.le_of_ble_eq_true rfl) (Nat.le_of_ble_eq_true rfl) dX1_init_6 (16, x) hf (fun q H hY hS => ?_)
  refine y_putF (C := RX1) (T := TX1) (N := 7) (ci := 1) (ty := .array .long) (v := .ref q) (fs := [.int 0, .int 0, .int 0, .int 0, .int 0, .int 0, .null]) hx hb hts iw_X1_init_X1 tyX1 tyX1_ok nmX1 hown hK hY hS (15, x) (List.mem_append_left _ hi) (by simp [uA, h0e]) (by simp [uG, he]) rfl 6 (by decide) (hts (.fieldLink RX1 9 "PageOwners$Letter" "words" "[J") (by decide +kernel)) (fun _ h9 => h9) rfl hin rfl (by decide +kernel) rfl rfl (Nat.le_of_ble_eq_true rfl) dX1_init_8 (fun H locs hY hS => ?_)
  exact W.vret hx hb hr (fun t ht hW => ⟨⟨q, rfl, trivial, (congrArg (YW D A _ _ _) ht).mpr hY⟩, hS.F ht⟩) hS.2.2 dX1_init_11

theorem iw_X3_init_X3 : ∀ w ∈ wsX30, w ∈ wsX3_init := fun _ h => List.mem_cons_of_mem _ (List.mem_append_right _ h)
theorem iw_X3_init_X0 : ∀ w ∈ wsX00, w ∈ wsX3_init := fun _ h => List.mem_cons_of_mem _ (List.mem_append_left _ (List.mem_append_right _ h))
/-- the cells of a new node, behind its constructor -/
abbrev e5r : va_E := .inr (3, [.int 0, .null, .null, .null, .null, .null, .null, .null, .null, .null])
def eN (ad : Nat × Nat → Nat) (cy : Nat → ClassId) (k a : Nat) : va_E := match a with
  | 5 => .inr (3, [.int (nI k), .ref (ad (6, k)), .ref (ad (7, k)), .ref (ad (8, k)), .ref (ad (9, k)), .ref (ad (10, k)), .ref (ad (11, k)), .ref (ad (12, k)), .ref (ad (13, k)), .ref (ad (14, k))])
  | 6 => .inr (0, [.int 0, .int 0, .int 0, .int 0, .int 0, .long 0, .int 0, .int 0, .int 0, .long 0])
  | 7 => .inl (cy 0, 8, .inl (fun _ => 0))
  | 8 => .inl (cy 2, 8, .inl (fun _ => 0))
  | 9 => .inl (cy 0, 8, .inl (fun _ => 0))
  | 10 => .inl (cy 0, 8, .inl (fun _ => 0))
  | 11 => .inl (cy 1, 32, .inr (.inl (fun _ => 0)))
  | 12 => .inl (cy 0, 8, .inl (fun _ => 0))
  | 13 => .inl (cy 0, 48, .inl (fun _ => 0))
  | _ => .inl (cy 0, 48, .inl (fun _ => 0))
def NP (k : Nat) : List (Nat × Nat) := [(6, k), (7, k), (8, k), (9, k), (10, k), (11, k), (12, k), (13, k), (14, k)]
theorem AXin {D : va_G} {A : Nat → Prop} {P : List (Nat × Nat)} {ad : Nat × Nat → Nat} {g : Nat × Nat → va_E} {H H0 : Heap} {locs : List Loc} (hY : YW D A P ad g H) (hS : va_S A H0 H locs) (hA : ∀ q, H0.size ≤ q → A q) : ∀ q, AX P ad H.size q → A q := by
  intro q hq
  rcases hq with ⟨i, hi, rfl⟩ | hq
  · exact hY.inA hi
  · exact hA q (Nat.le_trans hS.1 hq)
set_option maxHeartbeats 4000000 in
set_option maxRecDepth 100000 in
/-- Node(k): nine new cells -/
theorem c_X3_init (l : Launch) {D : va_G} {P : List (Nat × Nat)} {ad : Nat × Nat → Nat} {g : Nat × Nat → va_E} {cy : Nat → ClassId} (k h0 sz : Nat) (hi : (5, k) ∈ P) (h0e : ad (5, k) = h0) (he : g (5, k) = e5r) (hf : ∀ i, i ∈ P → (6 ≤ i.1 ∧ i.1 < 15) → i.2 = k → False) : Met l yX3_init wsX3_init { frames := 2, cells := 9, slots := 178, locals := 32 } (va_Pc [.ref h0, .int (nI k)] (fun U => U.heap.size = sz ∧ YW D (fun _ => True) P ad g U.heap ∧ Kx D cy U)) (va_Qv (fun ad' : Nat × Nat → Nat => ∀ i, i ∈ P → ad' i = ad i) (fun ad' t => YW D (AX P ad sz) (P ++ NP k) ad' (fun i => if i.2 = k ∧ 5 ≤ i.1 ∧ i.1 < 15 then eN ad' cy k i.1 else g i) t.heap) (AX P ad sz)) 9 178 (AX P ad sz) := by
  refine Met.ofW (cc := cX3_init) (maxL := 2) (ret := none) (by decide) rfl ?_
  intro p e s m args below meth c s₁ B hml hv
  obtain ⟨rfl, hsz, hY, hKx⟩ := hv
  have hK := hKx.1
  have hx := B.exec
  have hb := B.bytes
  have hr := B.returns
  have hts := atoms_spec (ws := wsX3_init) B.pre
  have hown : s.vm.findClass RX3 = some m.cls := findClass_of_methodNamed B.named
  have hlocks := B.notSynchronized
  have hin : meth.name = "<init>" := (name_of_methodNamed B.named B.method).1
  subst hsz
  have hY := hY.self s.heap.size
  generalize hAe : AX P ad s.heap.size = A at hY ⊢
  have hA : ∀ q : Nat, s.heap.size ≤ q → A q := fun q h => by rw [← hAe]; exact Or.inr h
  have hS : va_S A s.heap s.heap [] := va_S.rf
  have hl := lv_entry ([.ref h0, .int (nI k)] : List Value) (n := 2) (Nat.le_of_ble_eq_true rfl)
  rw [lg_entry_eq]
  generalize (lg_sl ([.ref h0, .int (nI k)] : List Value) ++ List.replicate (2 - (lg_sl ([.ref h0, .int (nI k)] : List Value)).length) Slot.unset).toArray = ls at hl ⊢
  have hl : lv_has ls 2 [(0, .ref h0), (1, .int (nI k))] := hl
  refine lv_aload_n hx hb dX3_init_0 rfl (lv_at hl 0 rfl) ?_
  refine W.objInit hx hb hown (hts (.methodLink RX3 3 objectInit) (by decide +kernel)) (hts (.instanceMethod objectInit) (by decide +kernel)) (hts (.code objectInit ⟨#[0xb1]⟩ 1 none) (by decide +kernel)) rfl (by rw [hml]; exact hl.1) rfl dX3_init_1 (Nat.le_of_ble_eq_true rfl) (Nat.le_of_ble_eq_true rfl) ?_
  refine W.eq (g2 := F0 m 4 ls []) rfl ?_
  refine lv_aload_n hx hb dX3_init_4 rfl (lv_at hl 0 rfl) ?_
  refine y_new (ci := 0) (fs := [.int 0, .int 0, .int 0, .int 0, .int 0, .long 0, .int 0, .int 0, .int 0, .long 0]) (C := RX0) (T := TX0) (N := 10) hx hb hts iw_X3_init_X0 tyX0 tyX0_ok hown (hts (.classLink RX3 9 RX0) (by decide +kernel)) (hts (.instantiable RX0 10) (by decide +kernel)) (hts (.initialized RX0) (by decide +kernel)) hK hY hS hA rfl (fun j hj => by rcases (show j = 0 ∨ j = 1 ∨ j = 2 ∨ j = 3 ∨ j = 4 ∨ j = 5 ∨ j = 6 ∨ j = 7 ∨ j = 8 ∨ j = 9 by omega) with rfl | rfl | rfl | rfl | rfl | rfl | rfl | rfl | rfl | rfl <;> rfl) (Nat.le_of_ble_eq_true rfl) (Nat.le_of_ble_eq_true rfl) dX3_init_5 (6, k) (fun z => hf _ z (by simp) rfl) (fun q1 H hY hS => ?_)
  refine lv_dup hx hb dX3_init_8 rfl ?_
  refine va_callv (va_runIN (As := []) (rest := [.ref q1, .ref h0]) ⟨hx, hb, hml, hown, hts⟩ (c_X0_init l (D := D) (P := P ++ [(6, k)]) (ad := uA ad (6, k) q1) (g := uG g (6, k) (.inr (0, [.int 0, .int 0, .int 0, .int 0, .int 0, .long 0, .int 0, .int 0, .int 0, .long 0]))) (cy := cy) q1 H.size) ⟨va_cnB 0 hts gX3_init_X0_init_n11 rfl rfl rfl hKx.2.2.2.2 (hts (.initialized RX0) (by decide +kernel)) (by decide +kernel) ⟨Nat.le_of_ble_eq_true rfl, Nat.le_of_ble_eq_true rfl⟩, rfl, hts (.instanceMethod yX0_init) (by decide +kernel)⟩ ⟨fun a U g mk q => by obtain ⟨z0, z1, z2, z3⟩ := q; exact ⟨z0, z1, z2, z3.call⟩, fun U hU hW => ⟨rfl, by rw [hU], by rw [hU]; exact hY.weak (fun _ _ => trivial), hKx.warm hW⟩⟩ rfl rfl hl.1 rfl (lv_room (Nat.le_of_ble_eq_true rfl)) dX3_init_9 ⟨Nat.le_of_ble_eq_true rfl, Nat.le_of_ble_eq_true rfl⟩) hS (fun q _ hz => AXin hY hS hA q hz) (fun q hz => AXin hY hS hA q hz) (fun u t H1 locs ht hvm hw hB hz1 hk1 hS1 => ?_)
  rw [ht] at hB
  have hY := hB.weak (AXin hY hS hA)
  have hS := hS1
  generalize H1 = H at hY hS ⊢
  refine y_putF (C := RX3) (T := TX3) (N := 10) (ci := 3) (ty := .object "PageOwners$Hand") (v := .ref q1) (fs := [.int 0, .null, .null, .null, .null, .null, .null, .null, .null, .null]) hx hb hts iw_X3_init_X3 tyX3 tyX3_ok nmX3 hown hK hY hS (5, k) (List.mem_append_left _ hi) (by simp [uA, h0e]) (by simp [uG, he]) rfl 1 (by decide) (hts (.fieldLink RX3 12 "PageOwners$Node" "hand" "LPageOwners$Hand;") (by decide +kernel)) (fun _ h9 => h9) rfl hin rfl (by decide +kernel) rfl rfl (Nat.le_of_ble_eq_true rfl) dX3_init_12 (fun H locs hY hS => ?_)
  refine lv_aload_n hx hb dX3_init_15 rfl (lv_at hl 0 rfl) ?_
  refine lv_bipush (v := 8) hx hb dX3_init_16 (by decide) ?_
  refine y_newa (atype := .int) (n := 8) (ty := .int) (N' := 8) (a0 := (8, .inl (fun _ => 0))) hx hb (hts (.arrayClass .int) (by decide +kernel)) rfl hK hY hS hA 0 rfl (ra_p (Or.inl rfl)) (fun _ => rfl) (by decide) (by decide) (by show 8 * 4 ≤ 536870912; omega) (Nat.le_of_ble_eq_true rfl) (Nat.le_of_ble_eq_true rfl) dX3_init_18 (7, k) (by simp; exact fun z => hf _ z (by simp) rfl) (fun q2 H hY hS => ?_)
  refine y_putF (C := RX3) (T := TX3) (N := 10) (ci := 3) (ty := .array .int) (v := .ref q2) (fs := [.int 0, .ref q1, .null, .null, .null, .null, .null, .null, .null, .null]) hx hb hts iw_X3_init_X3 tyX3 tyX3_ok nmX3 hown hK hY hS (5, k) (List.mem_append_left _ (List.mem_append_left _ hi)) (by simp [uA, h0e]) (by simp [uG, he]) rfl 2 (by decide) (hts (.fieldLink RX3 18 "PageOwners$Node" "accessTo" "[I") (by decide +kernel)) (fun _ h9 => h9) rfl hin rfl (by decide +kernel) rfl rfl (Nat.le_of_ble_eq_true rfl) dX3_init_20 (fun H locs hY hS => ?_)
  refine lv_aload_n hx hb dX3_init_23 rfl (lv_at hl 0 rfl) ?_
  refine lv_bipush (v := 8) hx hb dX3_init_24 (by decide) ?_
  refine y_newa (atype := .boolean) (n := 8) (ty := .boolean) (N' := 8) (a0 := (8, .inl (fun _ => 0))) hx hb (hts (.arrayClass .boolean) (by decide +kernel)) rfl hK hY hS hA 2 rfl (ra_p (Or.inr (Or.inr rfl))) (fun _ => rfl) (by decide) (by decide) (by show 8 * 1 ≤ 536870912; omega) (Nat.le_of_ble_eq_true rfl) (Nat.le_of_ble_eq_true rfl) dX3_init_26 (8, k) (by simp; exact fun z => hf _ z (by simp) rfl) (fun q3 H hY hS => ?_)
  refine y_putF (C := RX3) (T := TX3) (N := 10) (ci := 3) (ty := .array .boolean) (v := .ref q3) (fs := [.int 0, .ref q1, .ref q2, .null, .null, .null, .null, .null, .null, .null]) hx hb hts iw_X3_init_X3 tyX3 tyX3_ok nmX3 hown hK hY hS (5, k) (List.mem_append_left _ (List.mem_append_left _ (List.mem_append_left _ hi))) (by simp [uA, h0e]) (by simp [uG, he]) rfl 3 (by decide) (hts (.fieldLink RX3 22 "PageOwners$Node" "owns" "[Z") (by decide +kernel)) (fun _ h9 => h9) rfl hin rfl (by decide +kernel) rfl rfl (Nat.le_of_ble_eq_true rfl) dX3_init_28 (fun H locs hY hS => ?_)
  refine lv_aload_n hx hb dX3_init_31 rfl (lv_at hl 0 rfl) ?_
  refine lv_bipush (v := 8) hx hb dX3_init_32 (by decide) ?_
  refine y_newa (atype := .int) (n := 8) (ty := .int) (N' := 8) (a0 := (8, .inl (fun _ => 0))) hx hb (hts (.arrayClass .int) (by decide +kernel)) rfl hK hY hS hA 0 rfl (ra_p (Or.inl rfl)) (fun _ => rfl) (by decide) (by decide) (by show 8 * 4 ≤ 536870912; omega) (Nat.le_of_ble_eq_true rfl) (Nat.le_of_ble_eq_true rfl) dX3_init_34 (9, k) (by simp; exact fun z => hf _ z (by simp) rfl) (fun q4 H hY hS => ?_)
  refine y_putF (C := RX3) (T := TX3) (N := 10) (ci := 3) (ty := .array .int) (v := .ref q4) (fs := [.int 0, .ref q1, .ref q2, .ref q3, .null, .null, .null, .null, .null, .null]) hx hb hts iw_X3_init_X3 tyX3 tyX3_ok nmX3 hown hK hY hS (5, k) (List.mem_append_left _ (List.mem_append_left _ (List.mem_append_left _ (List.mem_append_left _ hi)))) (by simp [uA, h0e]) (by simp [uG, he]) rfl 4 (by decide) (hts (.fieldLink RX3 26 "PageOwners$Node" "guessOf" "[I") (by decide +kernel)) (fun _ h9 => h9) rfl hin rfl (by decide +kernel) rfl rfl (Nat.le_of_ble_eq_true rfl) dX3_init_36 (fun H locs hY hS => ?_)
  refine lv_aload_n hx hb dX3_init_39 rfl (lv_at hl 0 rfl) ?_
  refine lv_bipush (v := 8) hx hb dX3_init_40 (by decide) ?_
  refine y_newa (atype := .int) (n := 8) (ty := .int) (N' := 8) (a0 := (8, .inl (fun _ => 0))) hx hb (hts (.arrayClass .int) (by decide +kernel)) rfl hK hY hS hA 0 rfl (ra_p (Or.inl rfl)) (fun _ => rfl) (by decide) (by decide) (by show 8 * 4 ≤ 536870912; omega) (Nat.le_of_ble_eq_true rfl) (Nat.le_of_ble_eq_true rfl) dX3_init_42 (10, k) (by simp; exact fun z => hf _ z (by simp) rfl) (fun q5 H hY hS => ?_)
  refine y_putF (C := RX3) (T := TX3) (N := 10) (ci := 3) (ty := .array .int) (v := .ref q5) (fs := [.int 0, .ref q1, .ref q2, .ref q3, .ref q4, .null, .null, .null, .null, .null]) hx hb hts iw_X3_init_X3 tyX3 tyX3_ok nmX3 hown hK hY hS (5, k) (List.mem_append_left _ (List.mem_append_left _ (List.mem_append_left _ (List.mem_append_left _ (List.mem_append_left _ hi))))) (by simp [uA, h0e]) (by simp [uG, he]) rfl 5 (by decide) (hts (.fieldLink RX3 29 "PageOwners$Node" "copySet" "[I") (by decide +kernel)) (fun _ h9 => h9) rfl hin rfl (by decide +kernel) rfl rfl (Nat.le_of_ble_eq_true rfl) dX3_init_44 (fun H locs hY hS => ?_)
  refine lv_aload_n hx hb dX3_init_47 rfl (lv_at hl 0 rfl) ?_
  refine lv_bipush (v := 32) hx hb dX3_init_48 (by decide) ?_
  refine y_newa (atype := .long) (n := 32) (ty := .long) (N' := 32) (a0 := (32, .inr (.inl (fun _ => 0)))) hx hb (hts (.arrayClass .long) (by decide +kernel)) rfl hK hY hS hA 1 rfl (ra_p (Or.inr (Or.inl rfl))) (fun _ => rfl) (by decide) (by decide) (by show 32 * 8 ≤ 536870912; omega) (Nat.le_of_ble_eq_true rfl) (Nat.le_of_ble_eq_true rfl) dX3_init_50 (11, k) (by simp; exact fun z => hf _ z (by simp) rfl) (fun q6 H hY hS => ?_)
  refine y_putF (C := RX3) (T := TX3) (N := 10) (ci := 3) (ty := .array .long) (v := .ref q6) (fs := [.int 0, .ref q1, .ref q2, .ref q3, .ref q4, .ref q5, .null, .null, .null, .null]) hx hb hts iw_X3_init_X3 tyX3 tyX3_ok nmX3 hown hK hY hS (5, k) (List.mem_append_left _ (List.mem_append_left _ (List.mem_append_left _ (List.mem_append_left _ (List.mem_append_left _ (List.mem_append_left _ hi)))))) (by simp [uA, h0e]) (by simp [uG, he]) rfl 6 (by decide) (hts (.fieldLink RX3 32 "PageOwners$Node" "words" "[J") (by decide +kernel)) (fun _ h9 => h9) rfl hin rfl (by decide +kernel) rfl rfl (Nat.le_of_ble_eq_true rfl) dX3_init_52 (fun H locs hY hS => ?_)
  refine lv_aload_n hx hb dX3_init_55 rfl (lv_at hl 0 rfl) ?_
  refine lv_bipush (v := 8) hx hb dX3_init_56 (by decide) ?_
  refine y_newa (atype := .int) (n := 8) (ty := .int) (N' := 8) (a0 := (8, .inl (fun _ => 0))) hx hb (hts (.arrayClass .int) (by decide +kernel)) rfl hK hY hS hA 0 rfl (ra_p (Or.inl rfl)) (fun _ => rfl) (by decide) (by decide) (by show 8 * 4 ≤ 536870912; omega) (Nat.le_of_ble_eq_true rfl) (Nat.le_of_ble_eq_true rfl) dX3_init_58 (12, k) (by simp; exact fun z => hf _ z (by simp) rfl) (fun q7 H hY hS => ?_)
  refine y_putF (C := RX3) (T := TX3) (N := 10) (ci := 3) (ty := .array .int) (v := .ref q7) (fs := [.int 0, .ref q1, .ref q2, .ref q3, .ref q4, .ref q5, .ref q6, .null, .null, .null]) hx hb hts iw_X3_init_X3 tyX3 tyX3_ok nmX3 hown hK hY hS (5, k) (List.mem_append_left _ (List.mem_append_left _ (List.mem_append_left _ (List.mem_append_left _ (List.mem_append_left _ (List.mem_append_left _ (List.mem_append_left _ hi))))))) (by simp [uA, h0e]) (by simp [uG, he]) rfl 7 (by decide) (hts (.fieldLink RX3 36 "PageOwners$Node" "queued" "[I") (by decide +kernel)) (fun _ h9 => h9) rfl hin rfl (by decide +kernel) rfl rfl (Nat.le_of_ble_eq_true rfl) dX3_init_60 (fun H locs hY hS => ?_)
  refine lv_aload_n hx hb dX3_init_63 rfl (lv_at hl 0 rfl) ?_
  refine lv_bipush (v := 48) hx hb dX3_init_64 (by decide) ?_
  refine y_newa (atype := .int) (n := 48) (ty := .int) (N' := 48) (a0 := (48, .inl (fun _ => 0))) hx hb (hts (.arrayClass .int) (by decide +kernel)) rfl hK hY hS hA 0 rfl (ra_p (Or.inl rfl)) (fun _ => rfl) (by decide) (by decide) (by show 48 * 4 ≤ 536870912; omega) (Nat.le_of_ble_eq_true rfl) (Nat.le_of_ble_eq_true rfl) dX3_init_66 (13, k) (by simp; exact fun z => hf _ z (by simp) rfl) (fun q8 H hY hS => ?_)
  refine y_putF (C := RX3) (T := TX3) (N := 10) (ci := 3) (ty := .array .int) (v := .ref q8) (fs := [.int 0, .ref q1, .ref q2, .ref q3, .ref q4, .ref q5, .ref q6, .ref q7, .null, .null]) hx hb hts iw_X3_init_X3 tyX3 tyX3_ok nmX3 hown hK hY hS (5, k) (List.mem_append_left _ (List.mem_append_left _ (List.mem_append_left _ (List.mem_append_left _ (List.mem_append_left _ (List.mem_append_left _ (List.mem_append_left _ (List.mem_append_left _ hi)))))))) (by simp [uA, h0e]) (by simp [uG, he]) rfl 8 (by decide) (hts (.fieldLink RX3 39 "PageOwners$Node" "queuedKinds" "[I") (by decide +kernel)) (fun _ h9 => h9) rfl hin rfl (by decide +kernel) rfl rfl (Nat.le_of_ble_eq_true rfl) dX3_init_68 (fun H locs hY hS => ?_)
  refine lv_aload_n hx hb dX3_init_71 rfl (lv_at hl 0 rfl) ?_
  refine lv_bipush (v := 48) hx hb dX3_init_72 (by decide) ?_
  refine y_newa (atype := .int) (n := 48) (ty := .int) (N' := 48) (a0 := (48, .inl (fun _ => 0))) hx hb (hts (.arrayClass .int) (by decide +kernel)) rfl hK hY hS hA 0 rfl (ra_p (Or.inl rfl)) (fun _ => rfl) (by decide) (by decide) (by show 48 * 4 ≤ 536870912; omega) (Nat.le_of_ble_eq_true rfl) (Nat.le_of_ble_eq_true rfl) dX3_init_74 (14, k) (by simp; exact fun z => hf _ z (by simp) rfl) (fun q9 H hY hS => ?_)
  refine y_putF (C := RX3) (T := TX3) (N := 10) (ci := 3) (ty := .array .int) (v := .ref q9) (fs := [.int 0, .ref q1, .ref q2, .ref q3, .ref q4, .ref q5, .ref q6, .ref q7, .ref q8, .null]) hx hb hts iw_X3_init_X3 tyX3 tyX3_ok nmX3 hown hK hY hS (5, k) (List.mem_append_left _ (List.mem_append_left _ (List.mem_append_left _ (List.mem_append_left _ (List.mem_append_left _ (List.mem_append_left _ (List.mem_append_left _ (List.mem_append_left _ (List.mem_append_left _ hi))))))))) (by simp [uA, h0e]) (by simp [uG, he]) rfl 9 (by decide) (hts (.fieldLink RX3 42 "PageOwners$Node" "queuedAskers" "[I") (by decide +kernel)) (fun _ h9 => h9) rfl hin rfl (by decide +kernel) rfl rfl (Nat.le_of_ble_eq_true rfl) dX3_init_76 (fun H locs hY hS => ?_)
  refine lv_aload_n hx hb dX3_init_79 rfl (lv_at hl 0 rfl) ?_
  refine lv_iload_n hx hb dX3_init_80 rfl (lv_at hl 1 rfl) ?_
  refine y_putF (C := RX3) (T := TX3) (N := 10) (ci := 3) (ty := .int) (v := .int (nI k)) (fs := [.int 0, .ref q1, .ref q2, .ref q3, .ref q4, .ref q5, .ref q6, .ref q7, .ref q8, .ref q9]) hx hb hts iw_X3_init_X3 tyX3 tyX3_ok nmX3 hown hK hY hS (5, k) (List.mem_append_left _ (List.mem_append_left _ (List.mem_append_left _ (List.mem_append_left _ (List.mem_append_left _ (List.mem_append_left _ (List.mem_append_left _ (List.mem_append_left _ (List.mem_append_left _ hi))))))))) (by simp [uA, h0e]) (by simp [uG, he]) rfl 0 (by decide) (hts (.fieldLink RX3 45 "PageOwners$Node" "number" "I") (by decide +kernel)) (fun _ h9 => h9) rfl hin rfl (by decide +kernel) rfl rfl (Nat.le_of_ble_eq_true rfl) dX3_init_81 (fun H locs hY hS => ?_)
  refine W.widen (k := 9) (n := 178) (by decide) (by decide) ?_
  refine W.vret hx hb hr (fun t ht hW => ⟨⟨uA (uA (uA (uA (uA (uA (uA (uA (uA (ad) (6, k) q1) (7, k) q2) (8, k) q3) (9, k) q4) (10, k) q5) (11, k) q6) (12, k) q7) (13, k) q8) (14, k) q9, rfl, fun i hi' => ?_, ?_⟩, hS.F ht⟩) hS.2.2 dX3_init_84
  · have hn : ∀ a, 6 ≤ a → a < 15 → i ≠ (a, k) := fun a h1 h2 z => hf i hi' (by rw [z]; exact ⟨h1, h2⟩) (by rw [z])
    simp [uA, hn]
  · refine (congrArg (YW D A _ _ _) ht).mpr ?_
    refine hY.cong (by simp [NP]) (fun _ _ => rfl) (fun i hi' => ?_)
    by_cases hk : i.2 = k ∧ 5 ≤ i.1 ∧ i.1 < 15
    · obtain ⟨a, k'⟩ := i
      obtain ⟨rfl, h1, h2⟩ := hk
      rcases (show a = 5 ∨ a = 6 ∨ a = 7 ∨ a = 8 ∨ a = 9 ∨ a = 10 ∨ a = 11 ∨ a = 12 ∨ a = 13 ∨ a = 14 by simp at h1 h2; omega) with rfl | rfl | rfl | rfl | rfl | rfl | rfl | rfl | rfl | rfl <;> simp [uG, uA, eN]
    · have hn : ∀ a, 5 ≤ a → a < 15 → i ≠ (a, k) := fun a h1 h2 z => hk (by rw [z]; exact ⟨rfl, h1, h2⟩)
      simp [uG, hn, hk]

