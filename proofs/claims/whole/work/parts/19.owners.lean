/-! PageOwners(): all cells of the class -/
def QP (k : Nat) : List (Nat × Nat) := (List.range k).flatMap (fun x => (5, x) :: NP x)
theorem QP_succ (k : Nat) : QP (k + 1) = QP k ++ (5, k) :: NP k := by simp [QP, List.range_succ]
theorem QP_mem {i : Nat × Nat} {n : Nat} : i ∈ QP n ↔ (5 ≤ i.1 ∧ i.1 < 15) ∧ i.2 < n := by
  obtain ⟨a, k⟩ := i
  simp only [QP, NP, List.mem_flatMap, List.mem_range, List.mem_cons, Prod.mk.injEq, List.not_mem_nil, or_false]
  constructor
  · rintro ⟨x, hx, h⟩
    have hk : k = x := by omega
    subst hk
    exact ⟨by omega, hx⟩
  · rintro ⟨h, hk⟩
    exact ⟨k, hk, by omega⟩
def PB : List (Nat × Nat) := ((([(0, 0)] ++ [(1, 0)]) ++ [(3, 0)]) ++ (4, 0) :: mLP 32) ++ [(2, 0)]
theorem PB_mem {i : Nat × Nat} : i ∈ PB ↔ (i.1 < 5 ∧ i.2 = 0) ∨ ((i.1 = 15 ∨ i.1 = 16) ∧ i.2 < 32) := by
  obtain ⟨a, k⟩ := i
  simp only [PB, List.mem_append, List.mem_cons, Prod.mk.injEq, List.not_mem_nil, or_false, mLP_mem]
  omega
def PC : List (Nat × Nat) := PB ++ QP 6
def sg0 : Sg := (fun a k _ => if a = 5 then nI k else 0, fun _ _ _ => 0, fun j => j)
def gA (ad : Nat × Nat → Nat) (cy : Nat → ClassId) (k : Nat) : Nat × Nat → va_E := fun i =>
  if i = (1, 0) then .inl (cy 4, 6, .inr (.inr (.inr (.inr (rowf ad 5 k))))) else if i = (4, 0) then .inl (cy 3, 32, .inr (.inr (.inr (.inr (rowf ad 15 32))))) else ctt ad cy sg0 i
theorem arr_sw {D : va_G} {cl : List vw_C} {a n : Nat} {cA : ClassId} {f f' : Nat → Option Nat} {H : Heap} (hff : ∀ q, q < n → f q = f' q) (h : va_at D cl (a, .inl (cA, n, .inr (.inr (.inr (.inr f))))) H) : va_at D cl (a, .inl (cA, n, .inr (.inr (.inr (.inr f'))))) H := by
  have e : vp_cell cA (n, .inr (.inr (.inr (.inr f)))) = vp_cell cA (n, .inr (.inr (.inr (.inr f')))) := by
    rw [vp_cell_q, vp_cell_q]
    unfold arrV
    congr 2
    funext j
    show va_rf (f j.val) = va_rf (f' j.val)
    rw [hff j.val j.isLt]
  show H[a]? = some (vp_cell cA (n, .inr (.inr (.inr (.inr f')))))
  rw [← e]
  exact h
theorem ctt_ad {ad ad' : Nat × Nat → Nat} {cy : Nat → ClassId} {σ : Sg} {k : Nat} (hag : ∀ j, j ∈ PB ++ QP k → ad' j = ad j) {i : Nat × Nat} (hi : i ∈ PB ++ QP k) (h1 : i ≠ (1, 0)) (h4 : i ≠ (4, 0)) : ctt ad' cy σ i = ctt ad cy σ i := by
  obtain ⟨a, x⟩ := i
  have hB : ∀ {b y : Nat}, (b < 5 ∧ y = 0) ∨ ((b = 15 ∨ b = 16) ∧ y < 32) → ad' (b, y) = ad (b, y) := fun h => hag _ (List.mem_append_left _ (PB_mem.mpr h))
  have hQ : ∀ {b y : Nat}, (5 ≤ b ∧ b < 15) → y < k → ad' (b, y) = ad (b, y) := fun h h2 => hag _ (List.mem_append_right _ (QP_mem.mpr ⟨h, h2⟩))
  rcases List.mem_append.mp hi with hm | hm
  · rcases PB_mem.mp hm with ⟨h5, h0⟩ | ⟨h15, h32⟩
    · simp only at h5 h0
      subst h0
      rcases (show a = 0 ∨ a = 1 ∨ a = 2 ∨ a = 3 ∨ a = 4 by omega) with rfl | rfl | rfl | rfl | rfl
      · simp [ctt, cel, hB (b := 1) (y := 0), hB (b := 2) (y := 0), hB (b := 3) (y := 0)]
      · exact absurd rfl h1
      · simp [ctt, cel]
      · simp [ctt, cel, hB (b := 4) (y := 0)]
      · exact absurd rfl h4
    · simp only at h15 h32
      rcases h15 with rfl | rfl
      · simp [ctt, cel, hB (b := 16) (y := x), h32]
      · simp [ctt, cel]
  · obtain ⟨h5, hx⟩ := QP_mem.mp hm
    simp only at h5 hx
    rcases (show a = 5 ∨ a = 6 ∨ a = 7 ∨ a = 8 ∨ a = 9 ∨ a = 10 ∨ a = 11 ∨ a = 12 ∨ a = 13 ∨ a = 14 by omega) with rfl | rfl | rfl | rfl | rfl | rfl | rfl | rfl | rfl | rfl
    · simp [ctt, cel, hQ (b := 6) (by omega) hx, hQ (b := 7) (by omega) hx, hQ (b := 8) (by omega) hx, hQ (b := 9) (by omega) hx, hQ (b := 10) (by omega) hx, hQ (b := 11) (by omega) hx, hQ (b := 12) (by omega) hx, hQ (b := 13) (by omega) hx, hQ (b := 14) (by omega) hx]
    all_goals simp [ctt, cel]
theorem InC_PC : InC PC := by
  intro a k ha hk
  unfold nk at hk
  by_cases h1 : a < 5
  · rw [if_pos h1] at hk
    exact List.mem_append_left _ (PB_mem.mpr (Or.inl ⟨h1, by simp only; omega⟩))
  · rw [if_neg h1] at hk
    by_cases h2 : a < 15
    · rw [if_pos h2] at hk
      exact List.mem_append_right _ (QP_mem.mpr ⟨⟨by simp only; omega, h2⟩, hk⟩)
    · rw [if_neg h2] at hk
      by_cases h3 : a < 17
      · rw [if_pos h3] at hk
        exact List.mem_append_left _ (PB_mem.mpr (Or.inr ⟨by simp only; omega, hk⟩))
      · rw [if_neg h3, if_pos ha] at hk
        omega
theorem PC_4 {k : Nat} (h : (4, k) ∈ PC) : k = 0 := by
  rcases List.mem_append.mp h with h | h
  · rcases PB_mem.mp h with h | h
    · exact h.2
    · simp only at h; omega
  · have := (QP_mem.mp h).1
    simp only at this; omega
/-- the whole class, built -/
theorem YW.built {D : va_G} {A : Nat → Prop} {ad : Nat × Nat → Nat} {cy : Nat → ClassId} {H : Heap} (h : YW D A PC ad (gA ad cy 6) H) : AdOk PC ad ∧ Wo D PC ad cy sg0 H := by
  refine ⟨⟨h.1, fun k hk => PC_4 hk, h.inj⟩, ?_⟩
  intro n q hq
  simp only [wl, List.getElem?_map] at hq
  cases hx : PC[n]? with
  | none => rw [hx] at hq; cases hq
  | some i =>
    rw [hx] at hq
    cases hq
    have h1 : va_at D vwCl (ad i, gA ad cy 6 i) H := h.2.1 n _ (by simp [wl, hx])
    by_cases i1 : i = (1, 0)
    · subst i1
      have h2 : va_at D vwCl (ad (1, 0), .inl (cy 4, 6, .inr (.inr (.inr (.inr (rowf ad 5 6)))))) H := h1
      exact arr_sw (f' := fun q => some (ad (5, q))) (fun q hq => by simp [rowf, hq]) h2
    · by_cases i4 : i = (4, 0)
      · subst i4
        have h2 : va_at D vwCl (ad (4, 0), .inl (cy 3, 32, .inr (.inr (.inr (.inr (rowf ad 15 32)))))) H := h1
        exact arr_sw (f' := fun q => some (ad (15, q))) (fun q hq => by simp [rowf, hq]) h2
      · have e : gA ad cy 6 i = ctt ad cy sg0 i := by simp [gA, i1, i4]
        rw [e] at h1
        exact h1
abbrev e0r : va_E := .inr (4, [.null, .null, .null, .int 0])
theorem iw_X4_init_X4 : ∀ w ∈ wsX40, w ∈ wsX4_init := fun _ h => List.mem_cons_of_mem _ (List.mem_append_left _ (List.mem_append_left _ (List.mem_append_left _ (List.mem_append_left _ (List.mem_append_right _ h)))))
theorem iw_X4_init_X2 : ∀ w ∈ wsX20, w ∈ wsX4_init := fun _ h => List.mem_cons_of_mem _ (List.mem_append_left _ (List.mem_append_left _ (List.mem_append_left _ (List.mem_append_right _ h))))
theorem iw_X4_init_X3 : ∀ w ∈ wsX30, w ∈ wsX4_init := fun _ h => List.mem_cons_of_mem _ (List.mem_append_left _ (List.mem_append_left _ (List.mem_append_right _ h)))
set_option maxHeartbeats 4000000 in
set_option maxRecDepth 100000 in
theorem c_X4_init (l : Launch) {D : va_G} {cy : Nat → ClassId} (h0 sz : Nat) (Q : Sg → Prop) (h : wp_X4_startAnew sg0 4 Q) : Met l yX4_init wsX4_init { frames := 4, cells := 128, slots := 1528, locals := 90 } (va_Pc [.ref h0] (fun U => U.heap.size = sz ∧ YW D (fun _ => True) [(0, 0)] (fun _ => h0) (fun _ => e0r) U.heap ∧ Kx D cy U)) (va_Qv (fun u : (Nat × Nat → Nat) × Sg => u.1 (0, 0) = h0 ∧ Q u.2) (fun u t => AdOk PC u.1 ∧ (∀ i, i ∈ PC → AX [(0, 0)] (fun _ => h0) sz (u.1 i)) ∧ Wo D PC u.1 cy u.2 t.heap) (AX [(0, 0)] (fun _ => h0) sz)) 128 1528 (AX [(0, 0)] (fun _ => h0) sz) := by
  refine Met.ofW (cc := cX4_init) (maxL := 2) (ret := none) (by decide) rfl ?_
  intro p e s m args below meth c s₁ B hml hv
  obtain ⟨rfl, hsz, hY, hKx⟩ := hv
  have hK := hKx.1
  have hx := B.exec
  have hb := B.bytes
  have hr := B.returns
  have hts := atoms_spec (ws := wsX4_init) B.pre
  have hown : s.vm.findClass RX4 = some m.cls := findClass_of_methodNamed B.named
  have hlocks := B.notSynchronized
  have hin : meth.name = "<init>" := (name_of_methodNamed B.named B.method).1
  subst hsz
  have hY := hY.self s.heap.size
  generalize hAe : AX [(0, 0)] (fun _ => h0) s.heap.size = A at hY ⊢
  have hA : ∀ q : Nat, s.heap.size ≤ q → A q := fun q h => by rw [← hAe]; exact Or.inr h
  have hS : va_S A s.heap s.heap [] := va_S.rf
  have hl := lv_entry ([.ref h0] : List Value) (n := 2) (Nat.le_of_ble_eq_true rfl)
  rw [lg_entry_eq]
  generalize (lg_sl ([.ref h0] : List Value) ++ List.replicate (2 - (lg_sl ([.ref h0] : List Value)).length) Slot.unset).toArray = ls at hl ⊢
  have hl : lv_has ls 2 [(0, .ref h0)] := hl
  have L : ∀ (n k : Nat) (ad : Nat × Nat → Nat) (H : Heap) (locs : List Loc) (ls : Array Slot), k ≤ 6 → 6 < k + n → ad (0, 0) = h0 → YW D A (PB ++ QP k) ad (gA ad cy k) H → va_S A s.heap H locs → lv_has ls 2 [(0, .ref h0), (1, .int (nI k))] → W p l e (headSpec wsX4_init { frames := 4, cells := 128, slots := 1528, locals := 90 }).room s m ([.ref h0] : List Value).toArray below meth c H locs (68 + 10 * k) (400 + 188 * k) (MQ below (va_Qv (fun u : (Nat × Nat → Nat) × Sg => u.1 (0, 0) = h0 ∧ Q u.2) (fun u t => AdOk PC u.1 ∧ (∀ i, i ∈ PC → A (u.1 i)) ∧ Wo D PC u.1 cy u.2 t.heap) A) ([.ref h0] : List Value).toArray s 128 1528 A) (F0 m 34 ls []) := by
    intro n
    induction n with
    | zero => intro k ad H locs ls h1 h2; omega
    | succ n ih =>
      intro k ad H locs ls h1 h2 had hY hS hl
      refine lv_iload_n hx hb dX4_init_34 rfl (lv_at hl 1 rfl) ?_
      refine lv_bipush (v := 6) hx hb dX4_init_35 (by decide) ?_
      refine lv_icmp_ge (tgt := 60) hx hb dX4_init_37 (by decide) (fun c1 => ?_) (fun c1 => ?_)
      · have hk : k = 6 := by
          have := (nI_leI (a := 6) (b := k) (by omega) (by omega)).mp c1
          omega
        subst hk
        obtain ⟨hAd, hP⟩ := YW.built hY
        refine lv_aload_n hx hb dX4_init_60 rfl (lv_at hl 0 rfl) ?_
        refine lv_iconst (v := 4) hx hb dX4_init_61 (by decide) ?_
        have hrec := x_recv (q := (RX4, TX4, 4)) (ci := 4) hK hP (a := 0) (k := 0) (in1 InC_PC (by decide) (by decide)) rfl rfl
        rw [had] at hrec
        have hM := c_X4_startAnew l (D := D) (cy := cy) hAd InC_PC sg0 4 Q h
        rw [had] at hM
        refine va_callv (va_runV (As := [.int 4]) (rest := []) ⟨hx, hb, hml, hown, hts⟩ hM (cwV 1 hts gX4_init_X4_startAnew rfl rfl rfl (by decide +kernel) ⟨Nat.le_of_ble_eq_true rfl, Nat.le_of_ble_eq_true rfl⟩) ⟨x_blind _, hrec, x_pre hK hP _⟩ rfl rfl hl.1 rfl (lv_room (Nat.le_of_ble_eq_true rfl)) dX4_init_62 ⟨Nat.le_of_ble_eq_true rfl, Nat.le_of_ble_eq_true rfl⟩) hS (fun q _ hz => by obtain ⟨i, hi, rfl⟩ := hz; exact hY.inA hi) (fun q hz => by obtain ⟨i, hi, rfl⟩ := hz; exact hY.inA hi) (fun u t H1 locs ht hvm hw hB hz1 hk1 hS => ?_)
        refine W.widen (k := 128) (n := 1528) (by omega) (by omega) ?_
        refine W.vret hx hb hr (fun t2 ht2 hW => ⟨⟨(ad, u), rfl, ⟨had, hw⟩, hAd, fun i hi => hY.inA hi, ?_⟩, hS.F ht2⟩) hS.2.2 dX4_init_65
        have := hB.1
        rw [ht] at this
        rw [ht2]
        exact this
      · have hk : k < 6 := by
          rcases Nat.lt_or_ge k 6 with h | h
          · exact h
          · exact absurd (nI_le h (by omega)) c1
        have hi0 : (0, 0) ∈ PB ++ QP k := List.mem_append_left _ (PB_mem.mpr (Or.inl ⟨by decide, rfl⟩))
        have hi1 : (1, 0) ∈ PB ++ QP k := List.mem_append_left _ (PB_mem.mpr (Or.inl ⟨by decide, rfl⟩))
        have nQ : ∀ i : Nat × Nat, i ∈ PB ++ QP k → 5 ≤ i.1 ∧ i.1 < 15 → i.2 = k → False := by
          intro i hi h5 h2
          rcases List.mem_append.mp hi with z | z
          · have := PB_mem.mp z
            omega
          · have := (QP_mem.mp z).2
            omega
        have n5 : (5, k) ∉ PB ++ QP k := fun z => nQ _ z ⟨Nat.le_refl 5, by simp⟩ rfl
        refine lv_aload_n hx hb dX4_init_40 rfl (lv_at hl 0 rfl) ?_
        refine y_get (C := RX4) (T := TX4) (N := 4) (ci := 4) (v := .ref (ad (1, 0))) (fs := [.ref (ad (1, 0)), .ref (ad (3, 0)), .ref (ad (2, 0)), .int 0]) hx hb hts iw_X4_init_X4 hown hK hY (0, 0) hi0 had (by simp [gA, ctt, cel, sg0]) rfl 0 (by decide) (hts (.fieldLink RX4 11 "PageOwners" "all" "[LPageOwners$Node;") (by decide +kernel)) (fun _ h9 => h9) rfl dX4_init_41 ?_
        refine lv_iload_n hx hb dX4_init_44 rfl (lv_at hl 1 rfl) ?_
        refine y_new (ci := 3) (fs := [.int 0, .null, .null, .null, .null, .null, .null, .null, .null, .null]) (C := RX3) (T := TX3) (N := 10) hx hb hts iw_X4_init_X3 tyX3 tyX3_ok hown (hts (.classLink RX4 9 RX3) (by decide +kernel)) (hts (.instantiable RX3 10) (by decide +kernel)) (hts (.initialized RX3) (by decide +kernel)) hK hY hS hA rfl (fun j hj => by rcases (show j = 0 ∨ j = 1 ∨ j = 2 ∨ j = 3 ∨ j = 4 ∨ j = 5 ∨ j = 6 ∨ j = 7 ∨ j = 8 ∨ j = 9 by omega) with rfl | rfl | rfl | rfl | rfl | rfl | rfl | rfl | rfl | rfl <;> rfl) (by show 68 + 10 * k + 1 ≤ 128; omega) (by show 400 + 188 * k + 10 ≤ 1528; omega) dX4_init_45 (5, k) n5 (fun q H hY hS => ?_)
        refine lv_dup hx hb dX4_init_48 rfl ?_
        refine lv_iload_n hx hb dX4_init_49 rfl (lv_at hl 1 rfl) ?_
        have nQ2 : ∀ i : Nat × Nat, i ∈ (PB ++ QP k) ++ [(5, k)] → (6 ≤ i.1 ∧ i.1 < 15) → i.2 = k → False := by
          intro i hi h6 h2
          rcases List.mem_append.mp hi with z | z
          · exact nQ i z ⟨by omega, h6.2⟩ h2
          · rw [List.mem_singleton] at z; rw [z] at h6; exact absurd h6.1 (by simp)
        refine va_callv (va_runI (As := [.int (nI k)]) (rest := [.ref q, .int (nI k), .ref (ad (1, 0))]) ⟨hx, hb, hml, hown, hts⟩ (c_X3_init l (D := D) (P := (PB ++ QP k) ++ [(5, k)]) (ad := uA ad (5, k) q) (g := uG (gA ad cy k) (5, k) e5r) (cy := cy) k q H.size (List.mem_append_right _ List.mem_cons_self) uA_s uG_s nQ2) (cwI 1 hts gX4_init_X3_init rfl rfl rfl (hts (.initialized RX3) (by decide +kernel)) (hts (.methodLink RX4 26 yX3_init) (by decide +kernel)) (hts (.instanceMethod yX3_init) (by decide +kernel)) rfl (by decide +kernel) ⟨Nat.le_of_ble_eq_true rfl, Nat.le_of_ble_eq_true rfl⟩) ⟨fun a U g mk q => by obtain ⟨z0, z1, z2, z3⟩ := q; exact ⟨z0, z1, z2, z3.call⟩, fun U hU hW => ⟨rfl, by rw [hU], by rw [hU]; exact hY.weak (fun _ _ => trivial), hKx.warm hW⟩⟩ rfl rfl hl.1 rfl (lv_room (Nat.le_of_ble_eq_true rfl)) dX4_init_50 ⟨by show 68 + 10 * k + 1 + 9 ≤ 128; omega, by show 400 + 188 * k + 10 + 178 ≤ 1528; omega⟩) hS (fun q _ hz => AXin hY hS hA q hz) (fun q hz => AXin hY hS hA q hz) (fun ad3 t H1 locs ht hvm hw hB hz1 hk1 hS1 => ?_)
        rw [ht] at hB
        have hY := hB.weak (AXin hY hS hA)
        have hS := hS1
        generalize H1 = H at hY hS ⊢
        have hag : ∀ j, j ∈ PB ++ QP k → ad3 j = ad j := fun j hj => by
          rw [hw j (List.mem_append_left _ hj)]
          exact uA_n (fun z => n5 (z ▸ hj))
        have h3q : ad3 (5, k) = q := by
          rw [hw (5, k) (List.mem_append_right _ List.mem_cons_self)]
          exact uA_s
        refine y_astq (r := (RX3, TX3, 10)) (n := 6) (f := rowf ad 5 k) hx hb hK hY hS (1, 0) (List.mem_append_left _ (List.mem_append_left _ hi1)) (hag _ hi1) (5, k) (List.mem_append_left _ (List.mem_append_right _ List.mem_cons_self)) h3q 4 3 (by simp [uG, gA]) rfl (by simp [eN]; rfl) rfl (vp_in_nI hk (by omega)) dX4_init_53 (fun H locs hY hS => ?_)
        refine lv_iinc (v := nI (k + 1)) (lv' := [(1, .int (nI (k + 1))), (0, .ref h0)]) hx hb dX4_init_54 hl (k := 1) rfl (nI_1 k) (by decide) rfl (fun ls hl => ?_)
        refine lv_goto (tgt := 34) hx hb dX4_init_57 (by decide) ?_
        refine W.widen (k := 68 + 10 * (k + 1)) (n := 400 + 188 * (k + 1)) (by omega) (by omega) ?_
        refine ih (k + 1) ad3 H locs ls hk (by omega) ((hag _ hi0).trans had) ?_ hS (lv_sub hl [1, 0] rfl)
        refine hY.cong (by simp [QP_succ]) (fun _ _ => rfl) (fun i hi => ?_)
        have hcl : ix (nI k) = k := nI_clamp (by omega)
        have hrow : va_up (rowf ad 5 k) (ix (nI k)) (some q) = rowf ad3 5 (k + 1) := by
          rw [hcl]
          exact rowf_up ad ad3 5 k q (fun x hxk => hag _ (List.mem_append_right _ (QP_mem.mpr ⟨⟨Nat.le_refl 5, by simp⟩, hxk⟩))) h3q
        by_cases i1 : i = (1, 0)
        · subst i1
          rw [uG_s, hrow]
          simp [gA]
        · rw [uG_n i1]
          by_cases hik : i.2 = k ∧ 5 ≤ i.1 ∧ i.1 < 15
          · rw [if_pos hik]
            obtain ⟨a, x⟩ := i
            obtain ⟨rfl, h5, h15⟩ := hik
            simp only at h5 h15
            rcases (show a = 5 ∨ a = 6 ∨ a = 7 ∨ a = 8 ∨ a = 9 ∨ a = 10 ∨ a = 11 ∨ a = 12 ∨ a = 13 ∨ a = 14 by omega) with rfl | rfl | rfl | rfl | rfl | rfl | rfl | rfl | rfl | rfl <;> simp [gA, ctt, cel, eN, sg0]
          · rw [if_neg hik]
            have h5 : i ≠ (5, k) := fun z => hik (by rw [z]; exact ⟨rfl, Nat.le_refl 5, by simp⟩)
            rw [uG_n h5]
            have hm : i ∈ PB ++ QP k := by
              rcases List.mem_append.mp hi with z | z
              · rcases List.mem_append.mp z with z | z
                · exact z
                · rw [List.mem_singleton] at z; exact absurd z h5
              · exfalso
                have : i ∈ QP (k + 1) := by rw [QP_succ]; exact List.mem_append_right _ (List.mem_cons_of_mem _ z)
                obtain ⟨a, x⟩ := i
                simp [NP] at z
                apply hik
                simp only
                omega
            by_cases i4 : i = (4, 0)
            · subst i4
              have : rowf ad 15 32 = rowf ad3 15 32 := by
                funext x
                unfold rowf
                by_cases hx32 : x < 32
                · rw [if_pos hx32, if_pos hx32, hag _ (List.mem_append_left _ (PB_mem.mpr (Or.inr ⟨Or.inl rfl, hx32⟩)))]
                · rw [if_neg hx32, if_neg hx32]
              simp [gA, this]
            · simp only [gA, if_neg i1, if_neg i4]
              exact (ctt_ad hag hm i1 i4).symm
  refine lv_aload_n hx hb dX4_init_0 rfl (lv_at hl 0 rfl) ?_
  refine W.objInit hx hb hown (hts (.methodLink RX4 1 objectInit) (by decide +kernel)) (hts (.instanceMethod objectInit) (by decide +kernel)) (hts (.code objectInit ⟨#[0xb1]⟩ 1 none) (by decide +kernel)) rfl (by rw [hml]; exact hl.1) rfl dX4_init_1 (Nat.le_of_ble_eq_true rfl) (Nat.le_of_ble_eq_true rfl) ?_
  refine W.eq (g2 := F0 m 4 ls []) rfl ?_
  refine lv_aload_n hx hb dX4_init_4 rfl (lv_at hl 0 rfl) ?_
  refine lv_bipush (v := 6) hx hb dX4_init_5 (by decide) ?_
  refine y_newq (C := RX3) (n := 6) (N' := 6) (cA := cy 4) hx hb hown (hts (.classLink RX4 9 RX3) (by decide +kernel)) hKx.2.2.1 hK hY hS hA 4 rfl (by decide) (by decide) (by omega) (Nat.le_of_ble_eq_true rfl) (Nat.le_of_ble_eq_true rfl) dX4_init_7 (1, 0) (by simp) (fun q1 H hY hS => ?_)
  refine y_putF (C := RX4) (T := TX4) (N := 4) (ci := 4) (ty := .array (.object "PageOwners$Node")) (v := .ref q1) (fs := [.null, .null, .null, .int 0]) hx hb hts iw_X4_init_X4 tyX4 tyX4_ok nmX4 hown hK hY hS (0, 0) (by simp) (by simp [uA]) (by simp [uG]) rfl 0 (by decide) (hts (.fieldLink RX4 11 "PageOwners" "all" "[LPageOwners$Node;") (by decide +kernel)) (fun _ h9 => h9) rfl hin rfl (by decide +kernel) rfl rfl (Nat.le_of_ble_eq_true rfl) dX4_init_10 (fun H locs hY hS => ?_)
  refine lv_aload_n hx hb dX4_init_13 rfl (lv_at hl 0 rfl) ?_
  refine y_new (ci := 2) (fs := [.null, .int 0]) (C := RX2) (T := TX2) (N := 2) hx hb hts iw_X4_init_X2 tyX2 tyX2_ok hown (hts (.classLink RX4 15 RX2) (by decide +kernel)) (hts (.instantiable RX2 2) (by decide +kernel)) (hts (.initialized RX2) (by decide +kernel)) hK hY hS hA rfl (fun j hj => by rcases (show j = 0 ∨ j = 1 by omega) with rfl | rfl <;> rfl) (Nat.le_of_ble_eq_true rfl) (Nat.le_of_ble_eq_true rfl) dX4_init_14 (3, 0) (by simp) (fun q3 H hY hS => ?_)
  refine lv_dup hx hb dX4_init_17 rfl ?_
  generalize hg2 : uG (uG (uG (fun _ => e0r) (1, 0) (.inl (cy 4, 6, .inr (.inr (.inr (.inr (fun _ => none))))))) (0, 0) (.inr (4, [Value.null, Value.null, Value.null, Value.int 0].set 0 (.ref q1)))) (3, 0) (.inr (2, [.null, .int 0])) = g2 at hY
  generalize had2 : uA (uA (fun _ => h0) (1, 0) q1) (3, 0) q3 = ad2 at hY
  refine va_callv (va_runI (As := []) (rest := [.ref q3, .ref h0]) ⟨hx, hb, hml, hown, hts⟩ (c_X2_init l (D := D) (P := ([(0, 0)] ++ [(1, 0)]) ++ [(3, 0)]) (ad := ad2) (g := g2) (cy := cy) q3 H.size (by simp) (by rw [← had2]; exact uA_s) (by rw [← hg2]; exact uG_s) (fun i hi => by simp at hi; rcases hi with rfl | rfl | rfl <;> decide)) (cwI 0 hts gX4_init_X2_init rfl rfl rfl (hts (.initialized RX2) (by decide +kernel)) (hts (.methodLink RX4 17 yX2_init) (by decide +kernel)) (hts (.instanceMethod yX2_init) (by decide +kernel)) rfl (by decide +kernel) ⟨Nat.le_of_ble_eq_true rfl, Nat.le_of_ble_eq_true rfl⟩) ⟨fun a U g mk q => by obtain ⟨z0, z1, z2, z3⟩ := q; exact ⟨z0, z1, z2, z3.call⟩, fun U hU hW => ⟨rfl, by rw [hU], by rw [hU]; exact hY.weak (fun _ _ => trivial), hKx.warm hW⟩⟩ rfl rfl hl.1 rfl (lv_room (Nat.le_of_ble_eq_true rfl)) dX4_init_18 ⟨Nat.le_of_ble_eq_true rfl, Nat.le_of_ble_eq_true rfl⟩) hS (fun q _ hz => AXin hY hS hA q hz) (fun q hz => AXin hY hS hA q hz) (fun ad3 t H1 locs ht hvm hw hB hz1 hk1 hS1 => ?_)
  rw [ht] at hB
  have hY := hB.weak (AXin hY hS hA)
  have hS := hS1
  generalize H1 = H at hY hS ⊢
  have a0 : ad3 (0, 0) = h0 := by rw [hw _ (by simp), ← had2]; simp [uA]
  have a1 : ad3 (1, 0) = q1 := by rw [hw _ (by simp), ← had2]; simp [uA]
  have a3 : ad3 (3, 0) = q3 := by rw [hw _ (by simp), ← had2]; simp [uA]
  refine y_putF (C := RX4) (T := TX4) (N := 4) (ci := 4) (ty := .object "PageOwners$Mail") (v := .ref q3) (fs := [.ref q1, .null, .null, .int 0]) hx hb hts iw_X4_init_X4 tyX4 tyX4_ok nmX4 hown hK hY hS (0, 0) (by simp) a0 (by rw [← hg2]; simp [uG, gM]) rfl 1 (by decide) (hts (.fieldLink RX4 18 "PageOwners" "mail" "LPageOwners$Mail;") (by decide +kernel)) (fun _ h9 => h9) rfl hin rfl (by decide +kernel) rfl rfl (Nat.le_of_ble_eq_true rfl) dX4_init_21 (fun H locs hY hS => ?_)
  refine lv_aload_n hx hb dX4_init_24 rfl (lv_at hl 0 rfl) ?_
  refine lv_bipush (v := 8) hx hb dX4_init_25 (by decide) ?_
  refine y_newa (atype := .int) (n := 8) (ty := .int) (N' := 8) (a0 := (8, .inl (fun _ => 0))) hx hb (hts (.arrayClass .int) (by decide +kernel)) rfl hK hY hS hA 0 rfl (ra_p (Or.inl rfl)) (fun _ => rfl) (by decide) (by decide) (by show 8 * 4 ≤ 536870912; omega) (Nat.le_of_ble_eq_true rfl) (Nat.le_of_ble_eq_true rfl) dX4_init_27 (2, 0) (by simp [mLP_mem]) (fun q2 H hY hS => ?_)
  refine y_putF (C := RX4) (T := TX4) (N := 4) (ci := 4) (ty := .array .int) (v := .ref q2) (fs := [.ref q1, .ref q3, .null, .int 0]) hx hb hts iw_X4_init_X4 tyX4 tyX4_ok nmX4 hown hK hY hS (0, 0) (by simp) (by simp [uA, a0]) (by simp [uG]) rfl 2 (by decide) (hts (.fieldLink RX4 22 "PageOwners" "counts" "[I") (by decide +kernel)) (fun _ h9 => h9) rfl hin rfl (by decide +kernel) rfl rfl (Nat.le_of_ble_eq_true rfl) dX4_init_29 (fun H locs hY hS => ?_)
  refine lv_iconst (v := 0) hx hb dX4_init_32 (by decide) ?_
  refine lv_istore_n (lv' := [(1, .int 0), (0, .ref h0)]) hx hb dX4_init_33 rfl hl (by decide) rfl (fun ls hl => ?_)
  refine W.widen (k := 68 + 10 * 0) (n := 400 + 188 * 0) (by omega) (by omega) ?_
  refine L 7 0 (uA ad3 (2, 0) q2) H locs ls (by omega) (by omega) (by simp [uA, a0]) ?_ hS (lv_sub hl [1, 0] rfl)
  refine hY.cong (by simp [PB, QP]) (fun _ _ => rfl) (fun i hi => ?_)
  obtain ⟨a, k⟩ := i
  have hm : (a, k) ∈ PB := by
    have : (a, k) ∈ PB ++ QP 0 := by simpa [PB, QP] using hi
    simpa [QP] using this
  rcases PB_mem.mp hm with ⟨h5, hk0⟩ | ⟨h15, h32⟩
  · simp only at h5 hk0
    subst hk0
    rcases (show a = 0 ∨ a = 1 ∨ a = 2 ∨ a = 3 ∨ a = 4 by omega) with rfl | rfl | rfl | rfl | rfl
    · simp [uG, gA, ctt, cel, uA, sg0, a1, a3]
    · have : rowf (uA ad3 (2, 0) q2) 5 0 = fun _ => none := by funext x; simp [rowf]
      rw [← hg2]
      simp [uG, gA, gM, this]
    · simp [uG, gA, ctt, cel, sg0]
    · simp [uG, gA, gM, ctt, cel, sg0, uA]
    · have : rowf ad3 15 32 = rowf (uA ad3 (2, 0) q2) 15 32 := by
        funext x
        simp [rowf, uA]
      simp [uG, gA, gM, this]
  · simp only at h15 h32
    rcases h15 with rfl | rfl
    · simp [uG, gA, gM, ctt, cel, sg0, uA]
    · simp [uG, gA, gM, ctt, cel, sg0]
