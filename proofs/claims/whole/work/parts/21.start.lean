/-! THE LAW FROM ITS ENTRY to the head of its loop -/
theorem ctt_uA {ad : Nat × Nat → Nat} {cy : Nat → ClassId} {σ : Sg} {q : Nat} {i : Nat × Nat} (h : i.1 < 20) : ctt (uA ad (20, 0) q) cy σ i = ctt ad cy σ i := by
  obtain ⟨a, k⟩ := i
  simp only at h
  rcases (show a = 0 ∨ a = 1 ∨ a = 2 ∨ a = 3 ∨ a = 4 ∨ a = 5 ∨ a = 6 ∨ a = 7 ∨ a = 8 ∨ a = 9 ∨ a = 10 ∨ a = 11 ∨ a = 12 ∨ a = 13 ∨ a = 14 ∨ a = 15 ∨ a = 16 ∨ a = 17 ∨ a = 18 ∨ a = 19 by omega) with rfl | rfl | rfl | rfl | rfl | rfl | rfl | rfl | rfl | rfl | rfl | rfl | rfl | rfl | rfl | rfl | rfl | rfl | rfl | rfl <;> simp [ctt, cel, uA]
theorem kn_arr {s : State} {A : Array Value} {ty : FieldType} (h : (Cond.arrayClass ty).before A s = true) (hty : ty = .int ∨ ty = .long ∨ ty = .boolean) : ∃ c : ClassId, ArrOfT s c ty ∧ va_RA s c ty := by
  obtain ⟨c, k, comp, h1, h2, h3⟩ := Cond.arrayClass_spec h
  refine ⟨c, fun n z => ⟨(fun k h => by cases h), k, h2, comp, h3⟩, ?_⟩
  rcases hty with rfl | rfl | rfl <;> exact h1
theorem kn_obj {s : State} {A : Array Value} {C : String} (h : (Cond.arrayOver (.object C)).before A s = true) : ∃ c : ClassId, ArrOfT s c (.object C) ∧ va_RA s c (.object C) := by
  obtain ⟨comp, c, k, h1, -, h2, h3, h4⟩ := Cond.arrayOver_spec h
  exact ⟨c, fun n z => ⟨(fun k h => by cases h), k, h2, comp, h3⟩, k, comp, h2, h3, h1, h4⟩
set_option maxHeartbeats 4000000 in
set_option maxRecDepth 100000 in
theorem kn_all {s : State} {b : Nat} (hts : ∀ w ∈ lw_tbl, w.before #[Value.ref b] s = true) : ∃ (D : va_G) (cy : Nat → ClassId), Kx D cy s := by
  obtain ⟨c0, i0, k0⟩ := u_known (C := RX0) (T := TX0) (N := 10) (n := 10) hts inX0 (hts _ (wsL_law_in (.instantiable RX0 10) (by decide +kernel)))
  obtain ⟨c1, i1, k1⟩ := u_known (C := RX1) (T := TX1) (N := 7) (n := 7) hts inX1 (hts _ (wsL_law_in (.instantiable RX1 7) (by decide +kernel)))
  obtain ⟨c2, i2, k2⟩ := u_known (C := RX2) (T := TX2) (N := 2) (n := 2) hts inX2 (hts _ (wsL_law_in (.instantiable RX2 2) (by decide +kernel)))
  obtain ⟨c3, i3, k3⟩ := u_known (C := RX3) (T := TX3) (N := 10) (n := 10) hts inX3 (hts _ (wsL_law_in (.instantiable RX3 10) (by decide +kernel)))
  obtain ⟨c4, i4, k4⟩ := u_known (C := RX4) (T := TX4) (N := 4) (n := 4) hts inX4 (hts _ (wsL_law_in (.instantiable RX4 4) (by decide +kernel)))
  obtain ⟨c5, i5, k5⟩ := u_known (C := RX5) (T := TX5) (N := 25) (n := 25) hts inX5 (hts _ (wsL_law_in (.instantiable RX5 25) (by decide +kernel)))
  obtain ⟨a0, f0, g0⟩ := kn_arr (ty := .int) (hts _ (wsL_law_in (.arrayClass .int) (by decide +kernel))) (Or.inl rfl)
  obtain ⟨a1, f1, g1⟩ := kn_arr (ty := .long) (hts _ (wsL_law_in (.arrayClass .long) (by decide +kernel))) (Or.inr (Or.inl rfl))
  obtain ⟨a2, f2, g2⟩ := kn_arr (ty := .boolean) (hts _ (wsL_law_in (.arrayClass .boolean) (by decide +kernel))) (Or.inr (Or.inr rfl))
  have hL : (Cond.arrayOver (.object "PageOwners$Letter")).before #[Value.ref b] s = true := hts _ (List.mem_of_getElem? (i := 55) rfl)
  have hN : (Cond.arrayOver (.object "PageOwners$Node")).before #[Value.ref b] s = true := hts _ (List.mem_of_getElem? (i := 47) rfl)
  obtain ⟨a3, f3, g3⟩ := kn_obj hL
  obtain ⟨a4, f4, g4⟩ := kn_obj hN
  refine ⟨(fun k => if k = 0 then c0 else if k = 1 then c1 else if k = 2 then c2 else if k = 3 then c3 else if k = 4 then c4 else c5, fun k => if k = 0 then i0 else if k = 1 then i1 else if k = 2 then i2 else if k = 3 then i3 else if k = 4 then i4 else i5), fun k => if k = 0 then a0 else if k = 1 then a1 else if k = 2 then a2 else if k = 3 then a3 else a4, ⟨?_, ?_⟩, hL, hN, ?_, ?_⟩
  · intro k q hq
    match k, hq with
    | 0, hq => cases hq; exact k0
    | 1, hq => cases hq; exact k1
    | 2, hq => cases hq; exact k2
    | 3, hq => cases hq; exact k3
    | 4, hq => cases hq; exact k4
    | 5, hq => cases hq; exact k5
    | k + 6, hq => simp [vwCl] at hq
  · intro k q hq
    match k, hq with
    | 0, hq => cases hq; exact ⟨f0, g0⟩
    | 1, hq => cases hq; exact ⟨f1, g1⟩
    | 2, hq => cases hq; exact ⟨f2, g2⟩
    | 3, hq => cases hq; exact ⟨f3, g3⟩
    | 4, hq => cases hq; exact ⟨f4, g4⟩
    | k + 5, hq => simp [tysL] at hq
  · exact va_Nw.of rfl (hts _ (List.mem_of_getElem? (i := 57) rfl))
  · exact va_Nw.of rfl (hts _ (List.mem_of_getElem? (i := 107) rfl))
set_option maxHeartbeats 4000000 in
set_option maxRecDepth 100000 in
theorem whole_start_of {p : Program} {e : Env} {s : State} {m : MethodId} {below : List Frame} {meth : Method} {c : Code} (l : Launch) {b L : Nat} {xs : Nat → Int32} (C0 : lw_At p s m meth c b L xs) (h : wp_X4_startAnew sg0 4 (fun σ => (∀ j, j < 32 → σ.2.2 j < 32) ∧ wp_X5_begin (sgm σ) 4 (fun σ2 _ => ∃ n, lpL xs L n σ2 0))) : W p l e room_1 s m #[Value.ref b] below meth c s.heap [] 0 0 (lw_Z below #[Value.ref b] s) (entryFrame m ([Value.ref b] : List Value).toArray 4) := by
  obtain ⟨hx, hb, hr, hml, hown, hts0, hX, hbl, hlocks, hgv⟩ := id C0
  obtain ⟨D, cy, hKx⟩ := kn_all hts0
  have hK := hKx.1
  have hts : ∀ w ∈ wsL_law, w.before #[Value.ref b] s = true := fun w h => hts0 w (wsL_law_in w h)
  have hown : s.vm.findClass RL = some m.cls := hown
  have hA : ∀ q : Nat, s.heap.size ≤ q → (fun q : Nat => s.heap.size ≤ q) q := fun _ h => h
  have hS : va_S (fun q : Nat => s.heap.size ≤ q) s.heap s.heap [] := va_S.rf
  have hY : YW D (fun q : Nat => s.heap.size ≤ q) [] (fun _ => 0) (fun _ => e0r) s.heap := ⟨List.Pairwise.nil, fun k q h => by simp [wl] at h, ⟨fun i j p q h => by simp [wl] at h, fun k q h => by simp [wl] at h⟩⟩
  have hl := lv_entry ([.ref b] : List Value) (n := 4) (Nat.le_of_ble_eq_true rfl)
  rw [lg_entry_eq]
  generalize (lg_sl ([.ref b] : List Value) ++ List.replicate (4 - (lg_sl ([.ref b] : List Value)).length) Slot.unset).toArray = ls at hl ⊢
  have hl : lv_has ls 4 [(0, .ref b)] := hl
  refine y_new (ci := 4) (fs := [.null, .null, .null, .int 0]) (C := RX4) (T := TX4) (N := 4) hx hb hts inlX4 tyX4 tyX4_ok hown (hts (.classLink RL 7 RX4) (by decide +kernel)) (hts (.instantiable RX4 4) (by decide +kernel)) (hts (.initialized RX4) (by decide +kernel)) hK hY hS hA rfl (fun j hj => by rcases (show j = 0 ∨ j = 1 ∨ j = 2 ∨ j = 3 by omega) with rfl | rfl | rfl | rfl <;> rfl) (Nat.le_of_ble_eq_true rfl) (Nat.le_of_ble_eq_true rfl) dL_law_0 (0, 0) (by simp) (fun q0 H hY hS => ?_)
  have hY : YW D (fun q : Nat => s.heap.size ≤ q) [(0, 0)] (fun _ => q0) (fun _ => e0r) H := hY.cong rfl (fun i hi => by simp at hi; rw [hi]; exact uA_s) (fun i hi => by simp at hi; rw [hi]; exact uG_s)
  refine lv_dup hx hb dL_law_3 rfl ?_
  refine va_callv (va_runI (As := []) (rest := [.ref q0]) ⟨hx, hb, hml, hown, hts⟩ (c_X4_init l (D := D) (cy := cy) q0 H.size _ h) (cwI 0 hts gL_law_X4_init rfl rfl rfl (hts (.initialized RX4) (by decide +kernel)) (hts (.methodLink RL 9 yX4_init) (by decide +kernel)) (hts (.instanceMethod yX4_init) (by decide +kernel)) rfl (by decide +kernel) ⟨Nat.le_of_ble_eq_true rfl, Nat.le_of_ble_eq_true rfl⟩) ⟨fun a U g mk q => by obtain ⟨z0, z1, z2, z3⟩ := q; exact ⟨z0, z1, z2, z3.call⟩, fun U hU hW => ⟨rfl, by rw [hU], by rw [hU]; exact hY.weak (fun _ _ => trivial), hKx.warm hW⟩⟩ rfl rfl hl.1 rfl (lv_room (Nat.le_of_ble_eq_true rfl)) dL_law_4 ⟨Nat.le_of_ble_eq_true rfl, Nat.le_of_ble_eq_true rfl⟩) hS (fun q _ hz => AXin hY hS hA q hz) (fun q hz => AXin hY hS hA q hz) (fun u t H1 locs ht hvm hw hB hz1 hk1 hS1 => ?_)
  obtain ⟨ad1, σ1⟩ := u
  obtain ⟨hAd1, hin1, hP1⟩ := hB
  obtain ⟨e0, hr1, h⟩ := hw
  simp only at hAd1 hin1 hP1 e0 hr1 h
  rw [ht] at hP1
  have hin1 : ∀ i, i ∈ PC → s.heap.size ≤ ad1 i := fun i hi => AXin hY hS hA _ (hin1 i hi)
  have hS := hS1
  generalize H1 = H at hP1 hS ⊢
  have hY : YW D (fun q : Nat => s.heap.size ≤ q) PC ad1 (ctt ad1 cy σ1) H := ⟨hAd1.1, hP1, (hAd1.D _).weaken (fun _ q _ hq => by obtain ⟨i, hi, e⟩ := hq; rw [e]; exact hin1 i hi)⟩
  refine lv_astore_n (lv' := [(1, .ref q0), (0, .ref b)]) hx hb dL_law_7 rfl hl (by decide) rfl (fun ls hl => ?_)
  refine y_new (ci := 5) (fs := [.int 0, .null, .null, .null, .null, .null, .null, .null, .null, .null, .null, .null, .null, .null, .null, .null, .null, .null, .null, .null, .int 0, .null, .null, .null, .null]) (C := RX5) (T := TX5) (N := 25) hx hb hts inlX5 tyX5 tyX5_ok hown (hts (.classLink RL 10 RX5) (by decide +kernel)) (hts (.instantiable RX5 25) (by decide +kernel)) (hts (.initialized RX5) (by decide +kernel)) hK hY hS hA rfl (fun j hj => by rcases (show j = 0 ∨ j = 1 ∨ j = 2 ∨ j = 3 ∨ j = 4 ∨ j = 5 ∨ j = 6 ∨ j = 7 ∨ j = 8 ∨ j = 9 ∨ j = 10 ∨ j = 11 ∨ j = 12 ∨ j = 13 ∨ j = 14 ∨ j = 15 ∨ j = 16 ∨ j = 17 ∨ j = 18 ∨ j = 19 ∨ j = 20 ∨ j = 21 ∨ j = 22 ∨ j = 23 ∨ j = 24 by omega) with rfl | rfl | rfl | rfl | rfl | rfl | rfl | rfl | rfl | rfl | rfl | rfl | rfl | rfl | rfl | rfl | rfl | rfl | rfl | rfl | rfl | rfl | rfl | rfl | rfl <;> rfl) (Nat.le_of_ble_eq_true rfl) (Nat.le_of_ble_eq_true rfl) dL_law_8 (20, 0) (fun z => absurd (PC_lt z) (by simp)) (fun q5 H hY hS => ?_)
  have hY : YW D (fun q : Nat => s.heap.size ≤ q) (PC ++ [(20, 0)]) (uA ad1 (20, 0) q5) (uG (ctt (uA ad1 (20, 0) q5) cy σ1) (20, 0) e20r) H := hY.cong rfl (fun _ _ => rfl) (fun i hi => by
    by_cases h20 : i = (20, 0)
    · subst h20; rw [uG_s, uG_s]
    · rw [uG_n h20, uG_n h20]
      rcases List.mem_append.mp hi with z | z
      · exact (ctt_uA (PC_lt z)).symm
      · rw [List.mem_singleton] at z; exact absurd z h20)
  refine lv_dup hx hb dL_law_11 rfl ?_
  refine va_callv (va_runI (As := []) (rest := [.ref q5]) ⟨hx, hb, hml, hown, hts⟩ (c_X5_init l (D := D) (ad := uA ad1 (20, 0) q5) (cy := cy) q5 H.size σ1 hr1 uA_s _ h) (cwI 0 hts gL_law_X5_init rfl rfl rfl (hts (.initialized RX5) (by decide +kernel)) (hts (.methodLink RL 12 yX5_init) (by decide +kernel)) (hts (.instanceMethod yX5_init) (by decide +kernel)) rfl (by decide +kernel) ⟨Nat.le_of_ble_eq_true rfl, Nat.le_of_ble_eq_true rfl⟩) ⟨fun a U g mk q => by obtain ⟨z0, z1, z2, z3⟩ := q; exact ⟨z0, z1, z2, z3.call⟩, fun U hU hW => ⟨rfl, by rw [hU], by rw [hU]; exact hY.weak (fun _ _ => trivial), hKx.warm hW⟩⟩ rfl rfl hl.1 rfl (lv_room (Nat.le_of_ble_eq_true rfl)) dL_law_12 ⟨Nat.le_of_ble_eq_true rfl, Nat.le_of_ble_eq_true rfl⟩) hS (fun q _ hz => AXin hY hS hA q hz) (fun q hz => AXin hY hS hA q hz) (fun u t H1 locs ht hvm hw hB hz1 hk1 hS1 => ?_)
  obtain ⟨ad3, σ3, rr⟩ := u
  obtain ⟨hAd3, hin3, hP3⟩ := hB
  obtain ⟨hag, n, h⟩ := hw
  simp only at hAd3 hin3 hP3 hag h
  rw [ht] at hP3
  have hin3 : ∀ i, i ∈ PA → s.heap.size ≤ ad3 i := fun i hi => AXin hY hS hA _ (hin3 i hi)
  have e3 : ad3 (0, 0) = q0 := by
    rw [hag _ (List.mem_append_left _ (in1 InC_PC (a := 0) (by decide) (by decide))), uA_n (by simp)]
    exact e0
  have e5 : ad3 (20, 0) = q5 := by
    rw [hag _ (List.mem_append_right _ List.mem_cons_self)]
    exact uA_s
  have hS := hS1
  generalize H1 = H at hP3 hS ⊢
  refine lv_astore_n (lv' := [(2, .ref q5), (1, .ref q0), (0, .ref b)]) hx hb dL_law_15 rfl hl (by decide) rfl (fun ls hl => ?_)
  refine lv_iconst (v := 0) hx hb dL_law_16 (by decide) ?_
  refine lv_istore_n (lv' := [(3, .int 0), (2, .ref q5), (1, .ref q0), (0, .ref b)]) hx hb dL_law_17 rfl hl (by decide) rfl (fun ls hl => ?_)
  refine W.widen (k := 600000) (n := 7302250) (by decide) (by decide) ?_
  -- what has been written lies behind the start: nothing of it is told
  refine va_forget (fun q hq => hS.2.2 q hq) ?_
  have hS2 : va_S (Aof PA ad3) s.heap H [] := ⟨hS.1, fun q h1 h2 => hS.2.1 q h1 (Nat.not_le.mpr h1), fun l hl => by cases hl⟩
  exact law_loop hAd3 InC_PA InM_PA hin3 hK C0 n σ3 0 H [] ls h hP3 hS2 (lv_sub hl [3, 2, 1, 0] (by rw [e3, e5]; rfl))
