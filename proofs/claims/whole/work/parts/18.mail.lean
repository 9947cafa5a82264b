/-! Mail(): the row and its 32 letters -/
def mLP (j : Nat) : List (Nat × Nat) := (List.range j).flatMap (fun x => [(15, x), (16, x)])
theorem mLP_succ (j : Nat) : mLP (j + 1) = mLP j ++ [(15, j), (16, j)] := by simp [mLP, List.range_succ]
theorem mLP_mem {i : Nat × Nat} {j : Nat} : i ∈ mLP j ↔ (i.1 = 15 ∨ i.1 = 16) ∧ i.2 < j := by
  obtain ⟨a, k⟩ := i
  simp only [mLP, List.mem_flatMap, List.mem_range, List.mem_cons, Prod.mk.injEq, List.not_mem_nil, or_false]
  constructor
  · rintro ⟨x, hx, ⟨rfl, rfl⟩ | ⟨rfl, rfl⟩⟩
    · exact ⟨Or.inl rfl, hx⟩
    · exact ⟨Or.inr rfl, hx⟩
  · rintro ⟨h | h, hk⟩
    · exact ⟨k, hk, Or.inl ⟨h, rfl⟩⟩
    · exact ⟨k, hk, Or.inr ⟨h, rfl⟩⟩
def rowf (ad : Nat × Nat → Nat) (a j : Nat) : Nat → Option Nat := fun q => if q < j then some (ad (a, q)) else none
def gM (ad : Nat × Nat → Nat) (cy : Nat → ClassId) (g : Nat × Nat → va_E) (j : Nat) : Nat × Nat → va_E := fun i =>
  if i = (3, 0) then .inr (2, [.ref (ad (4, 0)), .int 0]) else if i = (4, 0) then .inl (cy 3, 32, .inr (.inr (.inr (.inr (rowf ad 15 j))))) else if i.1 = 15 then e15 (ad (16, i.2)) else if i.1 = 16 then e16 cy else g i
theorem rowf_up (ad ad' : Nat × Nat → Nat) (a j q : Nat) (h : ∀ x, x < j → ad' (a, x) = ad (a, x)) (hq : ad' (a, j) = q) : va_up (rowf ad a j) j (some q) = rowf ad' a (j + 1) := by
  funext x
  unfold rowf va_up
  by_cases h1 : x = j
  · subst h1; rw [if_pos rfl, if_pos (by omega), hq]
  · rw [if_neg h1]
    show (if x < j then some (ad (a, x)) else none) = _
    by_cases h2 : x < j
    · rw [if_pos h2, if_pos (by omega), h x h2]
    · rw [if_neg h2, if_neg (by omega)]
theorem iw_X2_init_X2 : ∀ w ∈ wsX20, w ∈ wsX2_init := fun _ h => List.mem_cons_of_mem _ (List.mem_append_left _ (List.mem_append_right _ h))
theorem iw_X2_init_X1 : ∀ w ∈ wsX10, w ∈ wsX2_init := fun _ h => List.mem_cons_of_mem _ (List.mem_append_right _ h)
set_option maxHeartbeats 4000000 in
set_option maxRecDepth 100000 in
theorem c_X2_init (l : Launch) {D : va_G} {P : List (Nat × Nat)} {ad : Nat × Nat → Nat} {g : Nat × Nat → va_E} {cy : Nat → ClassId} (h0 sz : Nat) (hi : (3, 0) ∈ P) (h0e : ad (3, 0) = h0) (he : g (3, 0) = .inr (2, [.null, .int 0])) (hf : ∀ i, i ∈ P → i.1 ≠ 4 ∧ i.1 ≠ 15 ∧ i.1 ≠ 16) : Met l yX2_init wsX2_init { frames := 2, cells := 65, slots := 384, locals := 32 } (va_Pc [.ref h0] (fun U => U.heap.size = sz ∧ YW D (fun _ => True) P ad g U.heap ∧ Kx D cy U)) (va_Qv (fun ad' : Nat × Nat → Nat => ∀ i, i ∈ P → ad' i = ad i) (fun ad' t => YW D (AX P ad sz) (P ++ (4, 0) :: mLP 32) ad' (gM ad' cy g 32) t.heap) (AX P ad sz)) 65 384 (AX P ad sz) := by
  refine Met.ofW (cc := cX2_init) (maxL := 2) (ret := none) (by decide) rfl ?_
  intro p e s m args below meth c s₁ B hml hv
  obtain ⟨rfl, hsz, hY, hKx⟩ := hv
  have hK := hKx.1
  have hx := B.exec
  have hb := B.bytes
  have hr := B.returns
  have hts := atoms_spec (ws := wsX2_init) B.pre
  have hown : s.vm.findClass RX2 = some m.cls := findClass_of_methodNamed B.named
  have hlocks := B.notSynchronized
  have hin : meth.name = "<init>" := (name_of_methodNamed B.named B.method).1
  subst hsz
  have hY := hY.self s.heap.size
  generalize hAe : AX P ad s.heap.size = A at hY ⊢
  have hA : ∀ q : Nat, s.heap.size ≤ q → A q := fun q h => by rw [← hAe]; exact Or.inr h
  have hS : va_S A s.heap s.heap [] := va_S.rf
  have hl := lv_entry ([.ref h0] : List Value) (n := 2) (Nat.le_of_ble_eq_true rfl)
  rw [lg_entry_eq]
  generalize (lg_sl ([.ref h0] : List Value) ++ List.replicate (2 - (lg_sl ([.ref h0] : List Value)).length) Slot.unset).toArray = ls at hl ⊢
  have hl : lv_has ls 2 [(0, .ref h0)] := hl
  have L : ∀ (n j : Nat) (ad' : Nat × Nat → Nat) (H : Heap) (locs : List Loc) (ls : Array Slot), j ≤ 32 → 32 < j + n → (∀ i, i ∈ P → ad' i = ad i) → YW D A (P ++ (4, 0) :: mLP j) ad' (gM ad' cy g j) H → va_S A s.heap H locs → lv_has ls 2 [(0, .ref h0), (1, .int (nI j))] → W p l e (headSpec wsX2_init { frames := 2, cells := 65, slots := 384, locals := 32 }).room s m ([.ref h0] : List Value).toArray below meth c H locs (1 + 2 * j) (32 + 11 * j) (MQ below (va_Qv (fun ad' : Nat × Nat → Nat => ∀ i, i ∈ P → ad' i = ad i) (fun ad' t => YW D A (P ++ (4, 0) :: mLP 32) ad' (gM ad' cy g 32) t.heap) A) ([.ref h0] : List Value).toArray s 65 384 A) (F0 m 15 ls []) := by
    intro n
    induction n with
    | zero => intro j ad' H locs ls h1 h2; omega
    | succ n ih =>
      intro j ad' H locs ls h1 h2 hag hY hS hl
      refine lv_iload_n hx hb dX2_init_15 rfl (lv_at hl 1 rfl) ?_
      refine lv_bipush (v := 32) hx hb dX2_init_16 (by decide) ?_
      refine lv_icmp_ge (tgt := 40) hx hb dX2_init_18 (by decide) (fun c1 => ?_) (fun c1 => ?_)
      · have hj : j = 32 := by
          have := (nI_leI (a := 32) (b := j) (by omega) (by omega)).mp c1
          omega
        subst hj
        refine W.widen (k := 65) (n := 384) (by omega) (by omega) ?_
        exact W.vret hx hb hr (fun t ht hW => ⟨⟨ad', rfl, hag, (congrArg (YW D A _ _ _) ht).mpr hY⟩, hS.F ht⟩) hS.2.2 dX2_init_40
      · have hj : j < 32 := by
          rcases Nat.lt_or_ge j 32 with h | h
          · exact h
          · exact absurd (nI_le h (by omega)) c1
        have hi3 : (3, 0) ∈ P ++ (4, 0) :: mLP j := List.mem_append_left _ hi
        have hi4 : (4, 0) ∈ P ++ (4, 0) :: mLP j := List.mem_append_right _ List.mem_cons_self
        have n15 : (15, j) ∉ P ++ (4, 0) :: mLP j := by
          intro z
          rcases List.mem_append.mp z with z | z
          · exact (hf _ z).2.1 rfl
          · rcases List.mem_cons.mp z with z | z
            · cases z
            · exact absurd (mLP_mem.mp z).2 (by simp)
        have n16 : (16, j) ∉ (P ++ (4, 0) :: mLP j) ++ [(15, j)] := by
          intro z
          rcases List.mem_append.mp z with z | z
          · rcases List.mem_append.mp z with z | z
            · exact (hf _ z).2.2 rfl
            · rcases List.mem_cons.mp z with z | z
              · cases z
              · exact absurd (mLP_mem.mp z).2 (by simp)
          · simp at z
        refine lv_aload_n hx hb dX2_init_21 rfl (lv_at hl 0 rfl) ?_
        refine y_get (C := RX2) (T := TX2) (N := 2) (ci := 2) (v := .ref (ad' (4, 0))) (fs := [.ref (ad' (4, 0)), .int 0]) hx hb hts iw_X2_init_X2 hown hK hY (3, 0) hi3 ((hag _ hi).trans h0e) (by simp [gM]) rfl 0 (by decide) (hts (.fieldLink RX2 13 "PageOwners$Mail" "row" "[LPageOwners$Letter;") (by decide +kernel)) (fun _ h9 => h9) rfl dX2_init_22 ?_
        refine lv_iload_n hx hb dX2_init_25 rfl (lv_at hl 1 rfl) ?_
        refine y_new (ci := 1) (fs := [.int 0, .int 0, .int 0, .int 0, .int 0, .int 0, .null]) (C := RX1) (T := TX1) (N := 7) hx hb hts iw_X2_init_X1 tyX1 tyX1_ok hown (hts (.classLink RX2 11 RX1) (by decide +kernel)) (hts (.instantiable RX1 7) (by decide +kernel)) (hts (.initialized RX1) (by decide +kernel)) hK hY hS hA rfl (fun j hj => by rcases (show j = 0 ∨ j = 1 ∨ j = 2 ∨ j = 3 ∨ j = 4 ∨ j = 5 ∨ j = 6 by omega) with rfl | rfl | rfl | rfl | rfl | rfl | rfl <;> rfl) (by show 1 + 2 * j + 1 ≤ 65; omega) (by show 32 + 11 * j + 7 ≤ 384; omega) dX2_init_26 (15, j) n15 (fun q H hY hS => ?_)
        refine lv_dup hx hb dX2_init_29 rfl ?_
        refine va_callv (va_runIN (As := []) (rest := [.ref q, .int (nI j), .ref (ad' (4, 0))]) ⟨hx, hb, hml, hown, hts⟩ (c_X1_init l (D := D) (P := (P ++ (4, 0) :: mLP j) ++ [(15, j)]) (ad := uA ad' (15, j) q) (g := uG (gM ad' cy g j) (15, j) e15r) (cy := cy) j q H.size (List.mem_append_right _ List.mem_cons_self) uA_s uG_s n16) ⟨va_cnB 0 hts gX2_init_X1_init_n17 rfl rfl rfl hKx.2.2.2.1 (hts (.initialized RX1) (by decide +kernel)) (by decide +kernel) ⟨Nat.le_of_ble_eq_true rfl, Nat.le_of_ble_eq_true rfl⟩, rfl, hts (.instanceMethod yX1_init) (by decide +kernel)⟩ ⟨fun a U g mk q => by obtain ⟨z0, z1, z2, z3⟩ := q; exact ⟨z0, z1, z2, z3.call⟩, fun U hU hW => ⟨rfl, by rw [hU], by rw [hU]; exact hY.weak (fun _ _ => trivial), hKx.warm hW⟩⟩ rfl rfl hl.1 rfl (lv_room (Nat.le_of_ble_eq_true rfl)) dX2_init_30 ⟨by show 1 + 2 * j + 1 + 1 ≤ 65; omega, by show 32 + 11 * j + 7 + 4 ≤ 384; omega⟩) hS (fun q _ hz => AXin hY hS hA q hz) (fun q hz => AXin hY hS hA q hz) (fun q2 t H1 locs ht hvm hw hB hz1 hk1 hS1 => ?_)
        rw [ht] at hB
        have hY := hB.weak (AXin hY hS hA)
        have hS := hS1
        generalize H1 = H at hY hS ⊢
        refine y_astq (r := (RX1, TX1, 7)) (n := 32) (f := rowf ad' 15 j) hx hb hK hY hS (4, 0) (List.mem_append_left _ (List.mem_append_left _ hi4)) (by simp [uA]) (15, j) (List.mem_append_left _ (List.mem_append_right _ List.mem_cons_self)) (by simp [uA]) 3 1 (vs := [.int 0, .int 0, .int 0, .int 0, .int 0, .int 0, .ref q2]) (by simp [uG, gM]) rfl (by simp [uG]) rfl (vp_in_nI hj (by omega)) dX2_init_33 (fun H locs hY hS => ?_)
        refine lv_iinc (v := nI (j + 1)) (lv' := [(1, .int (nI (j + 1))), (0, .ref h0)]) hx hb dX2_init_34 hl (k := 1) rfl (nI_1 j) (by decide) rfl (fun ls hl => ?_)
        refine lv_goto (tgt := 15) hx hb dX2_init_37 (by decide) ?_
        refine W.widen (k := 1 + 2 * (j + 1)) (n := 32 + 11 * (j + 1)) (by omega) (by omega) ?_
        refine ih (j + 1) (uA (uA ad' (15, j) q) (16, j) q2) H locs ls hj (by omega) (fun i hi => ?_) ?_ hS (lv_sub hl [1, 0] rfl)
        · rw [uA_n (fun z => (hf _ hi).2.2 (by rw [z])), uA_n (fun z => (hf _ hi).2.1 (by rw [z]))]
          exact hag i hi
        · refine hY.cong (by simp [mLP_succ]) (fun _ _ => rfl) (fun i hi => ?_)
          have hcl : ix (nI j) = j := nI_clamp (by omega)
          have hrow : va_up (rowf ad' 15 j) (ix (nI j)) (some q) = rowf (uA (uA ad' (15, j) q) (16, j) q2) 15 (j + 1) := by
            rw [hcl]
            exact rowf_up ad' _ 15 j q (fun x hxj => by have hne : x ≠ j := Nat.ne_of_lt hxj; simp [uA, hne]) (by simp [uA])
          obtain ⟨a, k⟩ := i
          by_cases ha4 : (a, k) = (4, 0)
          · cases ha4
            rw [uG_s, hrow]
            simp [gM]
          · rw [uG_n ha4]
            by_cases ha3 : (a, k) = (3, 0)
            · cases ha3; simp [uG, gM, uA]
            · by_cases h15 : a = 15
              · subst h15
                by_cases hk : k = j
                · subst hk; simp [uG, gM, uA]
                · simp [uG, gM, uA, hk]
              · by_cases h16 : a = 16
                · subst h16
                  by_cases hk : k = j
                  · subst hk; simp [uG, gM]
                  · simp [uG, gM, hk]
                · have e3 : ¬ (a = 3 ∧ k = 0) := fun z => ha3 (by rw [z.1, z.2])
                  have e4 : ¬ (a = 4 ∧ k = 0) := fun z => ha4 (by rw [z.1, z.2])
                  simp [uG, gM, h15, h16, e3, e4]
  refine lv_aload_n hx hb dX2_init_0 rfl (lv_at hl 0 rfl) ?_
  refine W.objInit hx hb hown (hts (.methodLink RX2 3 objectInit) (by decide +kernel)) (hts (.instanceMethod objectInit) (by decide +kernel)) (hts (.code objectInit ⟨#[0xb1]⟩ 1 none) (by decide +kernel)) rfl (by rw [hml]; exact hl.1) rfl dX2_init_1 (Nat.le_of_ble_eq_true rfl) (Nat.le_of_ble_eq_true rfl) ?_
  refine W.eq (g2 := F0 m 4 ls []) rfl ?_
  refine lv_aload_n hx hb dX2_init_4 rfl (lv_at hl 0 rfl) ?_
  refine lv_bipush (v := 32) hx hb dX2_init_5 (by decide) ?_
  have n4 : (4, 0) ∉ P := fun z => (hf _ z).1 rfl
  refine y_newq (C := RX1) (n := 32) (N' := 32) (cA := cy 3) hx hb hown (hts (.classLink RX2 11 RX1) (by decide +kernel)) hKx.2.1 hK hY hS hA 3 rfl (by decide) (by decide) (by omega) (Nat.le_of_ble_eq_true rfl) (Nat.le_of_ble_eq_true rfl) dX2_init_7 (4, 0) n4 (fun q4 H hY hS => ?_)
  refine y_putF (C := RX2) (T := TX2) (N := 2) (ci := 2) (ty := .array (.object "PageOwners$Letter")) (v := .ref q4) (fs := [.null, .int 0]) hx hb hts iw_X2_init_X2 tyX2 tyX2_ok nmX2 hown hK hY hS (3, 0) (List.mem_append_left _ hi) (by simp [uA, h0e]) (by simp [uG, he]) rfl 0 (by decide) (hts (.fieldLink RX2 13 "PageOwners$Mail" "row" "[LPageOwners$Letter;") (by decide +kernel)) (fun _ h9 => h9) rfl hin rfl (by decide +kernel) rfl rfl (Nat.le_of_ble_eq_true rfl) dX2_init_10 (fun H locs hY hS => ?_)
  refine lv_iconst (v := 0) hx hb dX2_init_13 (by decide) ?_
  refine lv_istore_n (lv' := [(1, .int 0), (0, .ref h0)]) hx hb dX2_init_14 rfl hl (by decide) rfl (fun ls hl => ?_)
  refine W.widen (k := 1 + 2 * 0) (n := 32 + 11 * 0) (by omega) (by omega) ?_
  refine L 33 0 (uA ad (4, 0) q4) H locs ls (by omega) (by omega) (fun i hi => uA_n (fun z => n4 (z ▸ hi))) ?_ hS (lv_sub hl [1, 0] rfl)
  refine hY.cong (by simp [mLP]) (fun _ _ => rfl) (fun i hi => ?_)
  obtain ⟨a, k⟩ := i
  by_cases ha3 : (a, k) = (3, 0)
  · cases ha3; simp [uG, gM, uA]
  · rw [uG_n ha3]
    by_cases ha4 : (a, k) = (4, 0)
    · cases ha4
      rw [uG_s]
      have : rowf (uA ad (4, 0) q4) 15 0 = fun _ => none := by funext x; simp [rowf]
      simp [gM, this]
    · rw [uG_n ha4]
      have hm : (a, k) ∈ P := by
        rcases List.mem_append.mp hi with z | z
        · exact z
        · simp at z; exact absurd (by rw [z.1, z.2]) ha4
      have e3 : ¬ (a = 3 ∧ k = 0) := fun z => ha3 (by rw [z.1, z.2])
      have e4 : ¬ (a = 4 ∧ k = 0) := fun z => ha4 (by rw [z.1, z.2])
      have h15 : a ≠ 15 := (hf _ hm).2.1
      have h16 : a ≠ 16 := (hf _ hm).2.2
      simp [gM, h15, h16, e3, e4]
