theorem iw_X5_begin_X5 : ∀ w ∈ wsX50, w ∈ wsX5_begin := fun _ h => List.mem_cons_of_mem _ (List.mem_append_right _ h)
def lp_X5_begin_181 (x1 : Int32) (Q : Sg → Int32 → Prop) : Nat → Sg → Int32 → Prop
  | 0, _, _ => False
  | n + 1, σ, y2 => ((8 ≤ y2 → (∀ σ9, σ9 = sI σ 20 0 20 0 → (Q σ9 1))) ∧ (¬ (8 ≤ y2) → (vp_in y2 8 ∧ (∀ σ11, σ11 = sI σ 41 0 (ix y2) 0 → lp_X5_begin_181 x1 Q n σ11 (y2 + 1)))))
def lp_X5_begin_125 (x1 : Int32) (Q : Sg → Int32 → Prop) : Nat → Sg → Int32 → Prop
  | 0, _, _ => False
  | n + 1, σ, y2 => ((6 ≤ y2 → (∃ n14, lp_X5_begin_181 x1 Q n14 σ 0)) ∧ (¬ (6 ≤ y2) → (vp_in y2 6 ∧ (∀ σ15, σ15 = sI σ 28 0 (ix y2) 0 → (vp_in y2 6 ∧ (∀ σ18, σ18 = sI σ15 33 0 (ix y2) 0 → (vp_in y2 6 ∧ (∀ σ21, σ21 = sI σ18 34 0 (ix y2) 0 → (vp_in y2 6 ∧ (∀ σ24, σ24 = sI σ21 35 0 (ix y2) 0 → (vp_in y2 6 ∧ (∀ σ27, σ27 = sI σ24 36 0 (ix y2) 0 → (vp_in y2 6 ∧ (∀ σ30, σ30 = sL σ27 37 0 (ix y2) 0 → lp_X5_begin_125 x1 Q n σ30 (y2 + 1)))))))))))))))
def lp_X5_begin_103 (x1 : Int32) (Q : Sg → Int32 → Prop) : Nat → Sg → Int32 → Prop
  | 0, _, _ => False
  | n + 1, σ, y2 => ((192 ≤ y2 → (∃ n33, lp_X5_begin_125 x1 Q n33 σ 0)) ∧ (¬ (192 ≤ y2) → (vp_in y2 192 ∧ (∀ σ34, σ34 = sL σ 25 0 (ix y2) 0 → lp_X5_begin_103 x1 Q n σ34 (y2 + 1)))))
def lp_X5_begin_20 (x1 : Int32) (Q : Sg → Int32 → Prop) : Nat → Sg → Int32 → Prop
  | 0, _, _ => False
  | n + 1, σ, y2 => ((48 ≤ y2 → (∃ n37, lp_X5_begin_103 x1 Q n37 σ 0)) ∧ (¬ (48 ≤ y2) → (¬ x1 = 0 ∧ (((y2 / 8) = ((y2 - y2 / 8 * 8) - (y2 - y2 / 8 * 8) / x1 * x1) → (vp_in y2 48 ∧ (∀ σ39, σ39 = sI σ 22 0 (ix y2) 1 → (vp_in y2 48 ∧ (((σ39.1 22 0 (ix y2)) = 0 → (vp_in y2 48 ∧ (∀ σ44, σ44 = sI σ39 21 0 (ix y2) 0 → (¬ x1 = 0 ∧ (vp_in y2 48 ∧ (∀ σ47, σ47 = sI σ44 23 0 (ix y2) ((y2 - y2 / 8 * 8) - (y2 - y2 / 8 * 8) / x1 * x1) → (vp_in y2 48 ∧ (∀ σ50, σ50 = sI σ47 24 0 (ix y2) 0 → (vp_in y2 48 ∧ (∀ σ53, σ53 = sI σ50 27 0 (ix y2) 0 → lp_X5_begin_20 x1 Q n σ53 (y2 + 1))))))))))) ∧ (¬ ((σ39.1 22 0 (ix y2)) = 0) → (vp_in y2 48 ∧ (∀ σ56, σ56 = sI σ39 21 0 (ix y2) 2 → (¬ x1 = 0 ∧ (vp_in y2 48 ∧ (∀ σ59, σ59 = sI σ56 23 0 (ix y2) ((y2 - y2 / 8 * 8) - (y2 - y2 / 8 * 8) / x1 * x1) → (vp_in y2 48 ∧ (∀ σ62, σ62 = sI σ59 24 0 (ix y2) 0 → (vp_in y2 48 ∧ (∀ σ65, σ65 = sI σ62 27 0 (ix y2) 0 → lp_X5_begin_20 x1 Q n σ65 (y2 + 1)))))))))))))))) ∧ (¬ ((y2 / 8) = ((y2 - y2 / 8 * 8) - (y2 - y2 / 8 * 8) / x1 * x1)) → (vp_in y2 48 ∧ (∀ σ68, σ68 = sI σ 22 0 (ix y2) 0 → (vp_in y2 48 ∧ (((σ68.1 22 0 (ix y2)) = 0 → (vp_in y2 48 ∧ (∀ σ73, σ73 = sI σ68 21 0 (ix y2) 0 → (¬ x1 = 0 ∧ (vp_in y2 48 ∧ (∀ σ76, σ76 = sI σ73 23 0 (ix y2) ((y2 - y2 / 8 * 8) - (y2 - y2 / 8 * 8) / x1 * x1) → (vp_in y2 48 ∧ (∀ σ79, σ79 = sI σ76 24 0 (ix y2) 0 → (vp_in y2 48 ∧ (∀ σ82, σ82 = sI σ79 27 0 (ix y2) 0 → lp_X5_begin_20 x1 Q n σ82 (y2 + 1))))))))))) ∧ (¬ ((σ68.1 22 0 (ix y2)) = 0) → (vp_in y2 48 ∧ (∀ σ85, σ85 = sI σ68 21 0 (ix y2) 2 → (¬ x1 = 0 ∧ (vp_in y2 48 ∧ (∀ σ88, σ88 = sI σ85 23 0 (ix y2) ((y2 - y2 / 8 * 8) - (y2 - y2 / 8 * 8) / x1 * x1) → (vp_in y2 48 ∧ (∀ σ91, σ91 = sI σ88 24 0 (ix y2) 0 → (vp_in y2 48 ∧ (∀ σ94, σ94 = sI σ91 27 0 (ix y2) 0 → lp_X5_begin_20 x1 Q n σ94 (y2 + 1))))))))))))))))))))
def wp_X5_begin (σ : Sg) (x1 : Int32) (Q : Sg → Int32 → Prop) : Prop := ((x1 < 2 → (Q σ 0)) ∧ (¬ (x1 < 2) → ((x1 ≤ 6 → (∀ σ3, σ3 = sI σ 20 0 0 x1 → (∃ n97, lp_X5_begin_20 x1 Q n97 σ3 0))) ∧ (¬ (x1 ≤ 6) → (Q σ 0)))))
abbrev rm_X5_begin : Room := { frames := 0, cells := 0, slots := 0, locals := 0 }
set_option maxHeartbeats 4000000 in
set_option maxRecDepth 100000 in
theorem c_X5_begin (l : Launch) {D : va_G} {P : List (Nat × Nat)} {ad : Nat × Nat → Nat} {cy : Nat → ClassId} (hAd : AdOk P ad) (hC : InM P) (σ : Sg) (x1 : Int32) (Q : Sg → Int32 → Prop) (h : wp_X5_begin σ x1 Q) : Met l yX5_begin wsX5_begin rm_X5_begin (xPc D P ad cy σ [.ref (ad (20, 0)), .int x1]) (va_Qi (fun r σ' => Q σ' r) (xB D P ad cy) (Aof P ad)) 0 0 (Aof P ad) := by
  refine Met.ofW (cc := cX5_begin) (maxL := 4) (ret := (some .boolean)) (by decide +kernel) rfl ?_
  intro p e s m args below meth c s₁ B hml hv
  obtain ⟨rfl, hP, hK⟩ := hv
  have hx := B.exec
  have hb := B.bytes
  have hr := B.returns
  have hts := atoms_spec (ws := wsX5_begin) B.pre
  have hown : s.vm.findClass RX5 = some m.cls := findClass_of_methodNamed B.named
  have hlocks := B.notSynchronized
  have hS : va_S (Aof P ad) s.heap s.heap [] := va_S.rf
  have hl := lv_entry ([.ref (ad (20, 0)), .int x1] : List Value) (n := 4) (Nat.le_of_ble_eq_true rfl)
  rw [lg_entry_eq]
  generalize (lg_sl ([.ref (ad (20, 0)), .int x1] : List Value) ++ List.replicate (4 - (lg_sl ([.ref (ad (20, 0)), .int x1] : List Value)).length) Slot.unset).toArray = ls at hl ⊢
  have hl : lv_has ls 4 [(0, .ref (ad (20, 0))), (1, .int x1)] := hl
  have L181 : ∀ (n : Nat) (σ : Sg) (y2 : Int32) (H : Heap) (locs : List Loc) (ls : Array Slot), lp_X5_begin_181 x1 Q n σ y2 → Wo D P ad cy σ H → va_S (Aof P ad) s.heap H locs → lv_has ls 4 [(0, .ref (ad (20, 0))), (1, .int x1), (2, .int y2)] → W p l e (headSpec wsX5_begin rm_X5_begin).room s m ([.ref (ad (20, 0)), .int x1] : List Value).toArray below meth c H locs 0 0 (MQ below (va_Qi (fun r σ' => Q σ' r) (xB D P ad cy) (Aof P ad)) ([.ref (ad (20, 0)), .int x1] : List Value).toArray s 0 0 (Aof P ad)) (F0 m 181 ls []) := by
    intro n
    induction n with
    | zero =>
      intro σ y2 H locs ls h
      exact h.elim
    | succ n ih =>
      intro σ y2 H locs ls h hP hS hl
      rw [lp_X5_begin_181] at h
      refine lv_iload_n hx hb dX5_begin_181 rfl (lv_at hl 2 rfl) ?_
      refine lv_bipush (v := 8) hx hb dX5_begin_182 (by decide) ?_
      refine lv_icmp_ge (tgt := 200) hx hb dX5_begin_184 (by decide) (fun c8 => ?_) (fun c8 => ?_)
      · have h := h.1 c8
        refine lv_aload_n hx hb dX5_begin_200 rfl (lv_at hl 0 rfl) ?_
        refine lv_iconst (v := 0) hx hb dX5_begin_201 (by decide) ?_
        refine x_puti (C := RX5) (T := TX5) (N := 25) (ci := 5) (a := 20) (k := 0) (v := 0) (ty := .int) hx hb hts iw_X5_begin_X5 tyX5 tyX5_ok nmX5 hown hK hP hAd hS (in1m hC (a := 20) (by decide) (by decide)) rfl rfl 20 (by decide) (hts (.fieldLink RX5 89 "PageOwnersModel" "flying" "I") (by decide +kernel)) (fun _ h9 => h9) rfl (by decide +kernel) rfl rfl (Nat.le_of_ble_eq_true rfl) rfl dX5_begin_202 (fun H locs hP hS => ?_)
        obtain ⟨σ9, e10⟩ : ∃ z, z = sI σ 20 0 20 0 := ⟨_, rfl⟩
        rw [← e10] at hP
        have h := h σ9 e10
        refine lv_iconst (v := 1) hx hb dX5_begin_205 (by decide) ?_
        exact W.zret (v := 1) hx hb hr rfl (fun t ht hW => ⟨⟨1, σ9, rfl, h, by rw [ht]; exact hP, va_K.moved hW.alike hK⟩, hS.F ht⟩) hS.2.2 dX5_begin_206
      · have h := h.2 c8
        refine lv_aload_n hx hb dX5_begin_187 rfl (lv_at hl 0 rfl) ?_
        refine x_get (C := RX5) (T := TX5) (N := 25) (ci := 5) (a := 20) (k := 0) (v := .ref (ad (41, 0))) hx hb hts iw_X5_begin_X5 hown hK hP (in1m hC (a := 20) (by decide) (by decide)) rfl rfl 21 (by decide) (hts (.fieldLink RX5 69 "PageOwnersModel" "counts" "[I") (by decide +kernel)) (fun _ h9 => h9) rfl dX5_begin_188 ?_
        refine lv_iload_n hx hb dX5_begin_191 rfl (lv_at hl 2 rfl) ?_
        refine lv_iconst (v := 0) hx hb dX5_begin_192 (by decide) ?_
        have hin13 := h.1
        have h := h.2
        refine x_iast (a := 41) (k := 0) (n := 8) hx hb hK hP hAd hS (in1m hC (a := 41) (by decide) (by decide)) (fun _ => rfl) hin13 dX5_begin_193 (fun H locs hP hS => ?_)
        obtain ⟨σ11, e12⟩ : ∃ z, z = sI σ 41 0 (ix y2) 0 := ⟨_, rfl⟩
        rw [← e12] at hP
        have h := h σ11 e12
        refine lv_iinc (v := (y2 + 1)) (lv' := [(2, .int (y2 + 1)), (0, .ref (ad (20, 0))), (1, .int x1)]) hx hb dX5_begin_194 hl (k := 2) rfl rfl (by decide) rfl (fun ls hl => ?_)
        refine lv_goto (tgt := 181) hx hb dX5_begin_197 (by decide) ?_
        exact ih σ11 (y2 + 1) _ _ _ h hP hS (lv_sub hl [1, 2, 0] rfl)
  have L125 : ∀ (n : Nat) (σ : Sg) (y2 : Int32) (H : Heap) (locs : List Loc) (ls : Array Slot), lp_X5_begin_125 x1 Q n σ y2 → Wo D P ad cy σ H → va_S (Aof P ad) s.heap H locs → lv_has ls 4 [(0, .ref (ad (20, 0))), (1, .int x1), (2, .int y2)] → W p l e (headSpec wsX5_begin rm_X5_begin).room s m ([.ref (ad (20, 0)), .int x1] : List Value).toArray below meth c H locs 0 0 (MQ below (va_Qi (fun r σ' => Q σ' r) (xB D P ad cy) (Aof P ad)) ([.ref (ad (20, 0)), .int x1] : List Value).toArray s 0 0 (Aof P ad)) (F0 m 125 ls []) := by
    intro n
    induction n with
    | zero =>
      intro σ y2 H locs ls h
      exact h.elim
    | succ n ih =>
      intro σ y2 H locs ls h hP hS hl
      rw [lp_X5_begin_125] at h
      refine lv_iload_n hx hb dX5_begin_125 rfl (lv_at hl 2 rfl) ?_
      refine lv_bipush (v := 6) hx hb dX5_begin_126 (by decide) ?_
      refine lv_icmp_ge (tgt := 179) hx hb dX5_begin_128 (by decide) (fun c7 => ?_) (fun c7 => ?_)
      · have h := h.1 c7
        refine lv_iconst (v := 0) hx hb dX5_begin_179 (by decide) ?_
        refine lv_istore_n (lv' := [(2, .int 0), (0, .ref (ad (20, 0))), (1, .int x1)]) hx hb dX5_begin_180 rfl hl (by decide) rfl (fun ls hl => ?_)
        obtain ⟨n14, h⟩ := h
        exact L181 n14 σ 0 _ _ _ h hP hS (lv_sub hl [1, 2, 0] rfl)
      · have h := h.2 c7
        refine lv_aload_n hx hb dX5_begin_131 rfl (lv_at hl 0 rfl) ?_
        refine x_get (C := RX5) (T := TX5) (N := 25) (ci := 5) (a := 20) (k := 0) (v := .ref (ad (28, 0))) hx hb hts iw_X5_begin_X5 hown hK hP (in1m hC (a := 20) (by decide) (by decide)) rfl rfl 8 (by decide) (hts (.fieldLink RX5 33 "PageOwnersModel" "waits" "[I") (by decide +kernel)) (fun _ h9 => h9) rfl dX5_begin_132 ?_
        refine lv_iload_n hx hb dX5_begin_135 rfl (lv_at hl 2 rfl) ?_
        refine lv_iconst (v := 0) hx hb dX5_begin_136 (by decide) ?_
        have hin17 := h.1
        have h := h.2
        refine x_iast (a := 28) (k := 0) (n := 6) hx hb hK hP hAd hS (in1m hC (a := 28) (by decide) (by decide)) (fun _ => rfl) hin17 dX5_begin_137 (fun H locs hP hS => ?_)
        obtain ⟨σ15, e16⟩ : ∃ z, z = sI σ 28 0 (ix y2) 0 := ⟨_, rfl⟩
        rw [← e16] at hP
        have h := h σ15 e16
        refine lv_aload_n hx hb dX5_begin_138 rfl (lv_at hl 0 rfl) ?_
        refine x_get (C := RX5) (T := TX5) (N := 25) (ci := 5) (a := 20) (k := 0) (v := .ref (ad (33, 0))) hx hb hts iw_X5_begin_X5 hown hK hP (in1m hC (a := 20) (by decide) (by decide)) rfl rfl 13 (by decide) (hts (.fieldLink RX5 48 "PageOwnersModel" "answers" "[I") (by decide +kernel)) (fun _ h9 => h9) rfl dX5_begin_139 ?_
        refine lv_iload_n hx hb dX5_begin_142 rfl (lv_at hl 2 rfl) ?_
        refine lv_iconst (v := 0) hx hb dX5_begin_143 (by decide) ?_
        have hin20 := h.1
        have h := h.2
        refine x_iast (a := 33) (k := 0) (n := 6) hx hb hK hP hAd hS (in1m hC (a := 33) (by decide) (by decide)) (fun _ => rfl) hin20 dX5_begin_144 (fun H locs hP hS => ?_)
        obtain ⟨σ18, e19⟩ : ∃ z, z = sI σ15 33 0 (ix y2) 0 := ⟨_, rfl⟩
        rw [← e19] at hP
        have h := h σ18 e19
        refine lv_aload_n hx hb dX5_begin_145 rfl (lv_at hl 0 rfl) ?_
        refine x_get (C := RX5) (T := TX5) (N := 25) (ci := 5) (a := 20) (k := 0) (v := .ref (ad (34, 0))) hx hb hts iw_X5_begin_X5 hown hK hP (in1m hC (a := 20) (by decide) (by decide)) rfl rfl 14 (by decide) (hts (.fieldLink RX5 51 "PageOwnersModel" "wasCalled" "[Z") (by decide +kernel)) (fun _ h9 => h9) rfl dX5_begin_146 ?_
        refine lv_iload_n hx hb dX5_begin_149 rfl (lv_at hl 2 rfl) ?_
        refine lv_iconst (v := 0) hx hb dX5_begin_150 (by decide) ?_
        have hin23 := h.1
        have h := h.2
        refine x_zast (a := 34) (k := 0) (n := 6) hx hb hK hP hAd hS (in1m hC (a := 34) (by decide) (by decide)) (fun _ => rfl) hin23 (by decide) dX5_begin_151 (fun H locs hP hS => ?_)
        obtain ⟨σ21, e22⟩ : ∃ z, z = sI σ18 34 0 (ix y2) 0 := ⟨_, rfl⟩
        rw [← e22] at hP
        have h := h σ21 e22
        refine lv_aload_n hx hb dX5_begin_152 rfl (lv_at hl 0 rfl) ?_
        refine x_get (C := RX5) (T := TX5) (N := 25) (ci := 5) (a := 20) (k := 0) (v := .ref (ad (35, 0))) hx hb hts iw_X5_begin_X5 hown hK hP (in1m hC (a := 20) (by decide) (by decide)) rfl rfl 15 (by decide) (hts (.fieldLink RX5 54 "PageOwnersModel" "hadOne" "[Z") (by decide +kernel)) (fun _ h9 => h9) rfl dX5_begin_153 ?_
        refine lv_iload_n hx hb dX5_begin_156 rfl (lv_at hl 2 rfl) ?_
        refine lv_iconst (v := 0) hx hb dX5_begin_157 (by decide) ?_
        have hin26 := h.1
        have h := h.2
        refine x_zast (a := 35) (k := 0) (n := 6) hx hb hK hP hAd hS (in1m hC (a := 35) (by decide) (by decide)) (fun _ => rfl) hin26 (by decide) dX5_begin_158 (fun H locs hP hS => ?_)
        obtain ⟨σ24, e25⟩ : ∃ z, z = sI σ21 35 0 (ix y2) 0 := ⟨_, rfl⟩
        rw [← e25] at hP
        have h := h σ24 e25
        refine lv_aload_n hx hb dX5_begin_159 rfl (lv_at hl 0 rfl) ?_
        refine x_get (C := RX5) (T := TX5) (N := 25) (ci := 5) (a := 20) (k := 0) (v := .ref (ad (36, 0))) hx hb hts iw_X5_begin_X5 hown hK hP (in1m hC (a := 20) (by decide) (by decide)) rfl rfl 16 (by decide) (hts (.fieldLink RX5 57 "PageOwnersModel" "done" "[I") (by decide +kernel)) (fun _ h9 => h9) rfl dX5_begin_160 ?_
        refine lv_iload_n hx hb dX5_begin_163 rfl (lv_at hl 2 rfl) ?_
        refine lv_iconst (v := 0) hx hb dX5_begin_164 (by decide) ?_
        have hin29 := h.1
        have h := h.2
        refine x_iast (a := 36) (k := 0) (n := 6) hx hb hK hP hAd hS (in1m hC (a := 36) (by decide) (by decide)) (fun _ => rfl) hin29 dX5_begin_165 (fun H locs hP hS => ?_)
        obtain ⟨σ27, e28⟩ : ∃ z, z = sI σ24 36 0 (ix y2) 0 := ⟨_, rfl⟩
        rw [← e28] at hP
        have h := h σ27 e28
        refine lv_aload_n hx hb dX5_begin_166 rfl (lv_at hl 0 rfl) ?_
        refine x_get (C := RX5) (T := TX5) (N := 25) (ci := 5) (a := 20) (k := 0) (v := .ref (ad (37, 0))) hx hb hts iw_X5_begin_X5 hown hK hP (in1m hC (a := 20) (by decide) (by decide)) rfl rfl 17 (by decide) (hts (.fieldLink RX5 60 "PageOwnersModel" "result" "[J") (by decide +kernel)) (fun _ h9 => h9) rfl dX5_begin_167 ?_
        refine lv_iload_n hx hb dX5_begin_170 rfl (lv_at hl 2 rfl) ?_
        refine lv_lconst (v := 0) hx hb dX5_begin_171 (by decide) ?_
        have hin32 := h.1
        have h := h.2
        refine x_last (a := 37) (k := 0) (n := 6) hx hb hK hP hAd hS (in1m hC (a := 37) (by decide) (by decide)) (fun _ => rfl) hin32 dX5_begin_172 (fun H locs hP hS => ?_)
        obtain ⟨σ30, e31⟩ : ∃ z, z = sL σ27 37 0 (ix y2) 0 := ⟨_, rfl⟩
        rw [← e31] at hP
        have h := h σ30 e31
        refine lv_iinc (v := (y2 + 1)) (lv' := [(2, .int (y2 + 1)), (0, .ref (ad (20, 0))), (1, .int x1)]) hx hb dX5_begin_173 hl (k := 2) rfl rfl (by decide) rfl (fun ls hl => ?_)
        refine lv_goto (tgt := 125) hx hb dX5_begin_176 (by decide) ?_
        exact ih σ30 (y2 + 1) _ _ _ h hP hS (lv_sub hl [1, 2, 0] rfl)
  have L103 : ∀ (n : Nat) (σ : Sg) (y2 : Int32) (H : Heap) (locs : List Loc) (ls : Array Slot), lp_X5_begin_103 x1 Q n σ y2 → Wo D P ad cy σ H → va_S (Aof P ad) s.heap H locs → lv_has ls 4 [(0, .ref (ad (20, 0))), (1, .int x1), (2, .int y2)] → W p l e (headSpec wsX5_begin rm_X5_begin).room s m ([.ref (ad (20, 0)), .int x1] : List Value).toArray below meth c H locs 0 0 (MQ below (va_Qi (fun r σ' => Q σ' r) (xB D P ad cy) (Aof P ad)) ([.ref (ad (20, 0)), .int x1] : List Value).toArray s 0 0 (Aof P ad)) (F0 m 103 ls []) := by
    intro n
    induction n with
    | zero =>
      intro σ y2 H locs ls h
      exact h.elim
    | succ n ih =>
      intro σ y2 H locs ls h hP hS hl
      rw [lp_X5_begin_103] at h
      refine lv_iload_n hx hb dX5_begin_103 rfl (lv_at hl 2 rfl) ?_
      refine lv_sipush (v := 192) hx hb dX5_begin_104 (by decide) ?_
      refine lv_icmp_ge (tgt := 123) hx hb dX5_begin_107 (by decide) (fun c6 => ?_) (fun c6 => ?_)
      · have h := h.1 c6
        refine lv_iconst (v := 0) hx hb dX5_begin_123 (by decide) ?_
        refine lv_istore_n (lv' := [(2, .int 0), (0, .ref (ad (20, 0))), (1, .int x1)]) hx hb dX5_begin_124 rfl hl (by decide) rfl (fun ls hl => ?_)
        obtain ⟨n33, h⟩ := h
        exact L125 n33 σ 0 _ _ _ h hP hS (lv_sub hl [1, 2, 0] rfl)
      · have h := h.2 c6
        refine lv_aload_n hx hb dX5_begin_110 rfl (lv_at hl 0 rfl) ?_
        refine x_get (C := RX5) (T := TX5) (N := 25) (ci := 5) (a := 20) (k := 0) (v := .ref (ad (25, 0))) hx hb hts iw_X5_begin_X5 hown hK hP (in1m hC (a := 20) (by decide) (by decide)) rfl rfl 5 (by decide) (hts (.fieldLink RX5 23 "PageOwnersModel" "words" "[J") (by decide +kernel)) (fun _ h9 => h9) rfl dX5_begin_111 ?_
        refine lv_iload_n hx hb dX5_begin_114 rfl (lv_at hl 2 rfl) ?_
        refine lv_lconst (v := 0) hx hb dX5_begin_115 (by decide) ?_
        have hin36 := h.1
        have h := h.2
        refine x_last (a := 25) (k := 0) (n := 192) hx hb hK hP hAd hS (in1m hC (a := 25) (by decide) (by decide)) (fun _ => rfl) hin36 dX5_begin_116 (fun H locs hP hS => ?_)
        obtain ⟨σ34, e35⟩ : ∃ z, z = sL σ 25 0 (ix y2) 0 := ⟨_, rfl⟩
        rw [← e35] at hP
        have h := h σ34 e35
        refine lv_iinc (v := (y2 + 1)) (lv' := [(2, .int (y2 + 1)), (0, .ref (ad (20, 0))), (1, .int x1)]) hx hb dX5_begin_117 hl (k := 2) rfl rfl (by decide) rfl (fun ls hl => ?_)
        refine lv_goto (tgt := 103) hx hb dX5_begin_120 (by decide) ?_
        exact ih σ34 (y2 + 1) _ _ _ h hP hS (lv_sub hl [1, 2, 0] rfl)
  have L20 : ∀ (n : Nat) (σ : Sg) (y2 : Int32) (H : Heap) (locs : List Loc) (ls : Array Slot), lp_X5_begin_20 x1 Q n σ y2 → Wo D P ad cy σ H → va_S (Aof P ad) s.heap H locs → lv_has ls 4 [(0, .ref (ad (20, 0))), (1, .int x1), (2, .int y2)] → W p l e (headSpec wsX5_begin rm_X5_begin).room s m ([.ref (ad (20, 0)), .int x1] : List Value).toArray below meth c H locs 0 0 (MQ below (va_Qi (fun r σ' => Q σ' r) (xB D P ad cy) (Aof P ad)) ([.ref (ad (20, 0)), .int x1] : List Value).toArray s 0 0 (Aof P ad)) (F0 m 20 ls []) := by
    intro n
    induction n with
    | zero =>
      intro σ y2 H locs ls h
      exact h.elim
    | succ n ih =>
      intro σ y2 H locs ls h hP hS hl
      rw [lp_X5_begin_20] at h
      refine lv_iload_n hx hb dX5_begin_20 rfl (lv_at hl 2 rfl) ?_
      refine lv_bipush (v := 48) hx hb dX5_begin_21 (by decide) ?_
      refine lv_icmp_ge (tgt := 101) hx hb dX5_begin_23 (by decide) (fun c5 => ?_) (fun c5 => ?_)
      · have h := h.1 c5
        refine lv_iconst (v := 0) hx hb dX5_begin_101 (by decide) ?_
        refine lv_istore_n (lv' := [(2, .int 0), (0, .ref (ad (20, 0))), (1, .int x1)]) hx hb dX5_begin_102 rfl hl (by decide) rfl (fun ls hl => ?_)
        obtain ⟨n37, h⟩ := h
        exact L103 n37 σ 0 _ _ _ h hP hS (lv_sub hl [1, 2, 0] rfl)
      · have h := h.2 c5
        refine lv_iload_n hx hb dX5_begin_26 rfl (lv_at hl 2 rfl) ?_
        refine lv_bipush (v := 8) hx hb dX5_begin_27 (by decide) ?_
        refine lv_irem hx hb dX5_begin_29 (by decide) ?_
        refine lv_istore_n (lv' := [(3, .int (y2 - y2 / 8 * 8)), (0, .ref (ad (20, 0))), (1, .int x1), (2, .int y2)]) hx hb dX5_begin_30 rfl hl (by decide) rfl (fun ls hl => ?_)
        refine lv_aload_n hx hb dX5_begin_31 rfl (lv_at hl 1 rfl) ?_
        refine x_get (C := RX5) (T := TX5) (N := 25) (ci := 5) (a := 20) (k := 0) (v := .ref (ad (22, 0))) hx hb hts iw_X5_begin_X5 hown hK hP (in1m hC (a := 20) (by decide) (by decide)) rfl rfl 2 (by decide) (hts (.fieldLink RX5 13 "PageOwnersModel" "isOwner" "[Z") (by decide +kernel)) (fun _ h9 => h9) rfl dX5_begin_32 ?_
        refine lv_iload_n hx hb dX5_begin_35 rfl (lv_at hl 3 rfl) ?_
        refine lv_iload_n hx hb dX5_begin_36 rfl (lv_at hl 3 rfl) ?_
        refine lv_bipush (v := 8) hx hb dX5_begin_37 (by decide) ?_
        refine lv_idiv hx hb dX5_begin_39 (by decide) ?_
        refine lv_iload_n hx hb dX5_begin_40 rfl (lv_at hl 0 rfl) ?_
        refine lv_iload_n hx hb dX5_begin_41 rfl (lv_at hl 2 rfl) ?_
        refine lv_irem hx hb dX5_begin_42 h.1 ?_
        have h := h.2
        refine lv_icmp_ne (tgt := 50) hx hb dX5_begin_43 (by decide) (fun c38 => ?_) (fun c38 => ?_)
        · have h := h.2 c38
          refine lv_iconst (v := 0) hx hb dX5_begin_50 (by decide) ?_
          have hin70 := h.1
          have h := h.2
          refine x_zast (a := 22) (k := 0) (n := 48) hx hb hK hP hAd hS (in1m hC (a := 22) (by decide) (by decide)) (fun _ => rfl) hin70 (by decide) dX5_begin_51 (fun H locs hP hS => ?_)
          obtain ⟨σ68, e69⟩ : ∃ z, z = sI σ 22 0 (ix y2) 0 := ⟨_, rfl⟩
          rw [← e69] at hP
          have h := h σ68 e69
          refine lv_aload_n hx hb dX5_begin_52 rfl (lv_at hl 1 rfl) ?_
          refine x_get (C := RX5) (T := TX5) (N := 25) (ci := 5) (a := 20) (k := 0) (v := .ref (ad (21, 0))) hx hb hts iw_X5_begin_X5 hown hK hP (in1m hC (a := 20) (by decide) (by decide)) rfl rfl 1 (by decide) (hts (.fieldLink RX5 7 "PageOwnersModel" "access" "[I") (by decide +kernel)) (fun _ h9 => h9) rfl dX5_begin_53 ?_
          refine lv_iload_n hx hb dX5_begin_56 rfl (lv_at hl 3 rfl) ?_
          refine lv_aload_n hx hb dX5_begin_57 rfl (lv_at hl 1 rfl) ?_
          refine x_get (C := RX5) (T := TX5) (N := 25) (ci := 5) (a := 20) (k := 0) (v := .ref (ad (22, 0))) hx hb hts iw_X5_begin_X5 hown hK hP (in1m hC (a := 20) (by decide) (by decide)) rfl rfl 2 (by decide) (hts (.fieldLink RX5 13 "PageOwnersModel" "isOwner" "[Z") (by decide +kernel)) (fun _ h9 => h9) rfl dX5_begin_58 ?_
          refine lv_iload_n hx hb dX5_begin_61 rfl (lv_at hl 3 rfl) ?_
          have hin71 := h.1
          have h := h.2
          refine x_zald (a := 22) (k := 0) (n := 48) hx hb hK hP (in1m hC (a := 22) (by decide) (by decide)) (fun _ => rfl) hin71 dX5_begin_62 ?_
          refine lv_if_eq (tgt := 70) hx hb dX5_begin_63 (by decide) (fun c72 => ?_) (fun c72 => ?_)
          · have h := h.1 c72
            refine lv_iconst (v := 0) hx hb dX5_begin_70 (by decide) ?_
            have hin75 := h.1
            have h := h.2
            refine x_iast (a := 21) (k := 0) (n := 48) hx hb hK hP hAd hS (in1m hC (a := 21) (by decide) (by decide)) (fun _ => rfl) hin75 dX5_begin_71 (fun H locs hP hS => ?_)
            obtain ⟨σ73, e74⟩ : ∃ z, z = sI σ68 21 0 (ix y2) 0 := ⟨_, rfl⟩
            rw [← e74] at hP
            have h := h σ73 e74
            refine lv_aload_n hx hb dX5_begin_72 rfl (lv_at hl 1 rfl) ?_
            refine x_get (C := RX5) (T := TX5) (N := 25) (ci := 5) (a := 20) (k := 0) (v := .ref (ad (23, 0))) hx hb hts iw_X5_begin_X5 hown hK hP (in1m hC (a := 20) (by decide) (by decide)) rfl rfl 3 (by decide) (hts (.fieldLink RX5 17 "PageOwnersModel" "guess" "[I") (by decide +kernel)) (fun _ h9 => h9) rfl dX5_begin_73 ?_
            refine lv_iload_n hx hb dX5_begin_76 rfl (lv_at hl 3 rfl) ?_
            refine lv_iload_n hx hb dX5_begin_77 rfl (lv_at hl 0 rfl) ?_
            refine lv_iload_n hx hb dX5_begin_78 rfl (lv_at hl 2 rfl) ?_
            refine lv_irem hx hb dX5_begin_79 h.1 ?_
            have h := h.2
            have hin78 := h.1
            have h := h.2
            refine x_iast (a := 23) (k := 0) (n := 48) hx hb hK hP hAd hS (in1m hC (a := 23) (by decide) (by decide)) (fun _ => rfl) hin78 dX5_begin_80 (fun H locs hP hS => ?_)
            obtain ⟨σ76, e77⟩ : ∃ z, z = sI σ73 23 0 (ix y2) ((y2 - y2 / 8 * 8) - (y2 - y2 / 8 * 8) / x1 * x1) := ⟨_, rfl⟩
            rw [← e77] at hP
            have h := h σ76 e77
            refine lv_aload_n hx hb dX5_begin_81 rfl (lv_at hl 1 rfl) ?_
            refine x_get (C := RX5) (T := TX5) (N := 25) (ci := 5) (a := 20) (k := 0) (v := .ref (ad (24, 0))) hx hb hts iw_X5_begin_X5 hown hK hP (in1m hC (a := 20) (by decide) (by decide)) rfl rfl 4 (by decide) (hts (.fieldLink RX5 20 "PageOwnersModel" "copies" "[I") (by decide +kernel)) (fun _ h9 => h9) rfl dX5_begin_82 ?_
            refine lv_iload_n hx hb dX5_begin_85 rfl (lv_at hl 3 rfl) ?_
            refine lv_iconst (v := 0) hx hb dX5_begin_86 (by decide) ?_
            have hin81 := h.1
            have h := h.2
            refine x_iast (a := 24) (k := 0) (n := 48) hx hb hK hP hAd hS (in1m hC (a := 24) (by decide) (by decide)) (fun _ => rfl) hin81 dX5_begin_87 (fun H locs hP hS => ?_)
            obtain ⟨σ79, e80⟩ : ∃ z, z = sI σ76 24 0 (ix y2) 0 := ⟨_, rfl⟩
            rw [← e80] at hP
            have h := h σ79 e80
            refine lv_aload_n hx hb dX5_begin_88 rfl (lv_at hl 1 rfl) ?_
            refine x_get (C := RX5) (T := TX5) (N := 25) (ci := 5) (a := 20) (k := 0) (v := .ref (ad (27, 0))) hx hb hts iw_X5_begin_X5 hown hK hP (in1m hC (a := 20) (by decide) (by decide)) rfl rfl 7 (by decide) (hts (.fieldLink RX5 30 "PageOwnersModel" "queued" "[I") (by decide +kernel)) (fun _ h9 => h9) rfl dX5_begin_89 ?_
            refine lv_iload_n hx hb dX5_begin_92 rfl (lv_at hl 3 rfl) ?_
            refine lv_iconst (v := 0) hx hb dX5_begin_93 (by decide) ?_
            have hin84 := h.1
            have h := h.2
            refine x_iast (a := 27) (k := 0) (n := 48) hx hb hK hP hAd hS (in1m hC (a := 27) (by decide) (by decide)) (fun _ => rfl) hin84 dX5_begin_94 (fun H locs hP hS => ?_)
            obtain ⟨σ82, e83⟩ : ∃ z, z = sI σ79 27 0 (ix y2) 0 := ⟨_, rfl⟩
            rw [← e83] at hP
            have h := h σ82 e83
            refine lv_iinc (v := (y2 + 1)) (lv' := [(2, .int (y2 + 1)), (3, .int (y2 - y2 / 8 * 8)), (0, .ref (ad (20, 0))), (1, .int x1)]) hx hb dX5_begin_95 hl (k := 3) rfl rfl (by decide) rfl (fun ls hl => ?_)
            refine lv_goto (tgt := 20) hx hb dX5_begin_98 (by decide) ?_
            exact ih σ82 (y2 + 1) _ _ _ h hP hS (lv_sub hl [2, 3, 0] rfl)
          · have h := h.2 c72
            refine lv_iconst (v := 2) hx hb dX5_begin_66 (by decide) ?_
            refine lv_goto (tgt := 71) hx hb dX5_begin_67 (by decide) ?_
            have hin87 := h.1
            have h := h.2
            refine x_iast (a := 21) (k := 0) (n := 48) hx hb hK hP hAd hS (in1m hC (a := 21) (by decide) (by decide)) (fun _ => rfl) hin87 dX5_begin_71 (fun H locs hP hS => ?_)
            obtain ⟨σ85, e86⟩ : ∃ z, z = sI σ68 21 0 (ix y2) 2 := ⟨_, rfl⟩
            rw [← e86] at hP
            have h := h σ85 e86
            refine lv_aload_n hx hb dX5_begin_72 rfl (lv_at hl 1 rfl) ?_
            refine x_get (C := RX5) (T := TX5) (N := 25) (ci := 5) (a := 20) (k := 0) (v := .ref (ad (23, 0))) hx hb hts iw_X5_begin_X5 hown hK hP (in1m hC (a := 20) (by decide) (by decide)) rfl rfl 3 (by decide) (hts (.fieldLink RX5 17 "PageOwnersModel" "guess" "[I") (by decide +kernel)) (fun _ h9 => h9) rfl dX5_begin_73 ?_
            refine lv_iload_n hx hb dX5_begin_76 rfl (lv_at hl 3 rfl) ?_
            refine lv_iload_n hx hb dX5_begin_77 rfl (lv_at hl 0 rfl) ?_
            refine lv_iload_n hx hb dX5_begin_78 rfl (lv_at hl 2 rfl) ?_
            refine lv_irem hx hb dX5_begin_79 h.1 ?_
            have h := h.2
            have hin90 := h.1
            have h := h.2
            refine x_iast (a := 23) (k := 0) (n := 48) hx hb hK hP hAd hS (in1m hC (a := 23) (by decide) (by decide)) (fun _ => rfl) hin90 dX5_begin_80 (fun H locs hP hS => ?_)
            obtain ⟨σ88, e89⟩ : ∃ z, z = sI σ85 23 0 (ix y2) ((y2 - y2 / 8 * 8) - (y2 - y2 / 8 * 8) / x1 * x1) := ⟨_, rfl⟩
            rw [← e89] at hP
            have h := h σ88 e89
            refine lv_aload_n hx hb dX5_begin_81 rfl (lv_at hl 1 rfl) ?_
            refine x_get (C := RX5) (T := TX5) (N := 25) (ci := 5) (a := 20) (k := 0) (v := .ref (ad (24, 0))) hx hb hts iw_X5_begin_X5 hown hK hP (in1m hC (a := 20) (by decide) (by decide)) rfl rfl 4 (by decide) (hts (.fieldLink RX5 20 "PageOwnersModel" "copies" "[I") (by decide +kernel)) (fun _ h9 => h9) rfl dX5_begin_82 ?_
            refine lv_iload_n hx hb dX5_begin_85 rfl (lv_at hl 3 rfl) ?_
            refine lv_iconst (v := 0) hx hb dX5_begin_86 (by decide) ?_
            have hin93 := h.1
            have h := h.2
            refine x_iast (a := 24) (k := 0) (n := 48) hx hb hK hP hAd hS (in1m hC (a := 24) (by decide) (by decide)) (fun _ => rfl) hin93 dX5_begin_87 (fun H locs hP hS => ?_)
            obtain ⟨σ91, e92⟩ : ∃ z, z = sI σ88 24 0 (ix y2) 0 := ⟨_, rfl⟩
            rw [← e92] at hP
            have h := h σ91 e92
            refine lv_aload_n hx hb dX5_begin_88 rfl (lv_at hl 1 rfl) ?_
            refine x_get (C := RX5) (T := TX5) (N := 25) (ci := 5) (a := 20) (k := 0) (v := .ref (ad (27, 0))) hx hb hts iw_X5_begin_X5 hown hK hP (in1m hC (a := 20) (by decide) (by decide)) rfl rfl 7 (by decide) (hts (.fieldLink RX5 30 "PageOwnersModel" "queued" "[I") (by decide +kernel)) (fun _ h9 => h9) rfl dX5_begin_89 ?_
            refine lv_iload_n hx hb dX5_begin_92 rfl (lv_at hl 3 rfl) ?_
            refine lv_iconst (v := 0) hx hb dX5_begin_93 (by decide) ?_
            have hin96 := h.1
            have h := h.2
            refine x_iast (a := 27) (k := 0) (n := 48) hx hb hK hP hAd hS (in1m hC (a := 27) (by decide) (by decide)) (fun _ => rfl) hin96 dX5_begin_94 (fun H locs hP hS => ?_)
            obtain ⟨σ94, e95⟩ : ∃ z, z = sI σ91 27 0 (ix y2) 0 := ⟨_, rfl⟩
            rw [← e95] at hP
            have h := h σ94 e95
            refine lv_iinc (v := (y2 + 1)) (lv' := [(2, .int (y2 + 1)), (3, .int (y2 - y2 / 8 * 8)), (0, .ref (ad (20, 0))), (1, .int x1)]) hx hb dX5_begin_95 hl (k := 3) rfl rfl (by decide) rfl (fun ls hl => ?_)
            refine lv_goto (tgt := 20) hx hb dX5_begin_98 (by decide) ?_
            exact ih σ94 (y2 + 1) _ _ _ h hP hS (lv_sub hl [2, 3, 0] rfl)
        · have h := h.1 c38
          refine lv_iconst (v := 1) hx hb dX5_begin_46 (by decide) ?_
          refine lv_goto (tgt := 51) hx hb dX5_begin_47 (by decide) ?_
          have hin41 := h.1
          have h := h.2
          refine x_zast (a := 22) (k := 0) (n := 48) hx hb hK hP hAd hS (in1m hC (a := 22) (by decide) (by decide)) (fun _ => rfl) hin41 (by decide) dX5_begin_51 (fun H locs hP hS => ?_)
          obtain ⟨σ39, e40⟩ : ∃ z, z = sI σ 22 0 (ix y2) 1 := ⟨_, rfl⟩
          rw [← e40] at hP
          have h := h σ39 e40
          refine lv_aload_n hx hb dX5_begin_52 rfl (lv_at hl 1 rfl) ?_
          refine x_get (C := RX5) (T := TX5) (N := 25) (ci := 5) (a := 20) (k := 0) (v := .ref (ad (21, 0))) hx hb hts iw_X5_begin_X5 hown hK hP (in1m hC (a := 20) (by decide) (by decide)) rfl rfl 1 (by decide) (hts (.fieldLink RX5 7 "PageOwnersModel" "access" "[I") (by decide +kernel)) (fun _ h9 => h9) rfl dX5_begin_53 ?_
          refine lv_iload_n hx hb dX5_begin_56 rfl (lv_at hl 3 rfl) ?_
          refine lv_aload_n hx hb dX5_begin_57 rfl (lv_at hl 1 rfl) ?_
          refine x_get (C := RX5) (T := TX5) (N := 25) (ci := 5) (a := 20) (k := 0) (v := .ref (ad (22, 0))) hx hb hts iw_X5_begin_X5 hown hK hP (in1m hC (a := 20) (by decide) (by decide)) rfl rfl 2 (by decide) (hts (.fieldLink RX5 13 "PageOwnersModel" "isOwner" "[Z") (by decide +kernel)) (fun _ h9 => h9) rfl dX5_begin_58 ?_
          refine lv_iload_n hx hb dX5_begin_61 rfl (lv_at hl 3 rfl) ?_
          have hin42 := h.1
          have h := h.2
          refine x_zald (a := 22) (k := 0) (n := 48) hx hb hK hP (in1m hC (a := 22) (by decide) (by decide)) (fun _ => rfl) hin42 dX5_begin_62 ?_
          refine lv_if_eq (tgt := 70) hx hb dX5_begin_63 (by decide) (fun c43 => ?_) (fun c43 => ?_)
          · have h := h.1 c43
            refine lv_iconst (v := 0) hx hb dX5_begin_70 (by decide) ?_
            have hin46 := h.1
            have h := h.2
            refine x_iast (a := 21) (k := 0) (n := 48) hx hb hK hP hAd hS (in1m hC (a := 21) (by decide) (by decide)) (fun _ => rfl) hin46 dX5_begin_71 (fun H locs hP hS => ?_)
            obtain ⟨σ44, e45⟩ : ∃ z, z = sI σ39 21 0 (ix y2) 0 := ⟨_, rfl⟩
            rw [← e45] at hP
            have h := h σ44 e45
            refine lv_aload_n hx hb dX5_begin_72 rfl (lv_at hl 1 rfl) ?_
            refine x_get (C := RX5) (T := TX5) (N := 25) (ci := 5) (a := 20) (k := 0) (v := .ref (ad (23, 0))) hx hb hts iw_X5_begin_X5 hown hK hP (in1m hC (a := 20) (by decide) (by decide)) rfl rfl 3 (by decide) (hts (.fieldLink RX5 17 "PageOwnersModel" "guess" "[I") (by decide +kernel)) (fun _ h9 => h9) rfl dX5_begin_73 ?_
            refine lv_iload_n hx hb dX5_begin_76 rfl (lv_at hl 3 rfl) ?_
            refine lv_iload_n hx hb dX5_begin_77 rfl (lv_at hl 0 rfl) ?_
            refine lv_iload_n hx hb dX5_begin_78 rfl (lv_at hl 2 rfl) ?_
            refine lv_irem hx hb dX5_begin_79 h.1 ?_
            have h := h.2
            have hin49 := h.1
            have h := h.2
            refine x_iast (a := 23) (k := 0) (n := 48) hx hb hK hP hAd hS (in1m hC (a := 23) (by decide) (by decide)) (fun _ => rfl) hin49 dX5_begin_80 (fun H locs hP hS => ?_)
            obtain ⟨σ47, e48⟩ : ∃ z, z = sI σ44 23 0 (ix y2) ((y2 - y2 / 8 * 8) - (y2 - y2 / 8 * 8) / x1 * x1) := ⟨_, rfl⟩
            rw [← e48] at hP
            have h := h σ47 e48
            refine lv_aload_n hx hb dX5_begin_81 rfl (lv_at hl 1 rfl) ?_
            refine x_get (C := RX5) (T := TX5) (N := 25) (ci := 5) (a := 20) (k := 0) (v := .ref (ad (24, 0))) hx hb hts iw_X5_begin_X5 hown hK hP (in1m hC (a := 20) (by decide) (by decide)) rfl rfl 4 (by decide) (hts (.fieldLink RX5 20 "PageOwnersModel" "copies" "[I") (by decide +kernel)) (fun _ h9 => h9) rfl dX5_begin_82 ?_
            refine lv_iload_n hx hb dX5_begin_85 rfl (lv_at hl 3 rfl) ?_
            refine lv_iconst (v := 0) hx hb dX5_begin_86 (by decide) ?_
            have hin52 := h.1
            have h := h.2
            refine x_iast (a := 24) (k := 0) (n := 48) hx hb hK hP hAd hS (in1m hC (a := 24) (by decide) (by decide)) (fun _ => rfl) hin52 dX5_begin_87 (fun H locs hP hS => ?_)
            obtain ⟨σ50, e51⟩ : ∃ z, z = sI σ47 24 0 (ix y2) 0 := ⟨_, rfl⟩
            rw [← e51] at hP
            have h := h σ50 e51
            refine lv_aload_n hx hb dX5_begin_88 rfl (lv_at hl 1 rfl) ?_
            refine x_get (C := RX5) (T := TX5) (N := 25) (ci := 5) (a := 20) (k := 0) (v := .ref (ad (27, 0))) hx hb hts iw_X5_begin_X5 hown hK hP (in1m hC (a := 20) (by decide) (by decide)) rfl rfl 7 (by decide) (hts (.fieldLink RX5 30 "PageOwnersModel" "queued" "[I") (by decide +kernel)) (fun _ h9 => h9) rfl dX5_begin_89 ?_
            refine lv_iload_n hx hb dX5_begin_92 rfl (lv_at hl 3 rfl) ?_
            refine lv_iconst (v := 0) hx hb dX5_begin_93 (by decide) ?_
            have hin55 := h.1
            have h := h.2
            refine x_iast (a := 27) (k := 0) (n := 48) hx hb hK hP hAd hS (in1m hC (a := 27) (by decide) (by decide)) (fun _ => rfl) hin55 dX5_begin_94 (fun H locs hP hS => ?_)
            obtain ⟨σ53, e54⟩ : ∃ z, z = sI σ50 27 0 (ix y2) 0 := ⟨_, rfl⟩
            rw [← e54] at hP
            have h := h σ53 e54
            refine lv_iinc (v := (y2 + 1)) (lv' := [(2, .int (y2 + 1)), (3, .int (y2 - y2 / 8 * 8)), (0, .ref (ad (20, 0))), (1, .int x1)]) hx hb dX5_begin_95 hl (k := 3) rfl rfl (by decide) rfl (fun ls hl => ?_)
            refine lv_goto (tgt := 20) hx hb dX5_begin_98 (by decide) ?_
            exact ih σ53 (y2 + 1) _ _ _ h hP hS (lv_sub hl [2, 3, 0] rfl)
          · have h := h.2 c43
            refine lv_iconst (v := 2) hx hb dX5_begin_66 (by decide) ?_
            refine lv_goto (tgt := 71) hx hb dX5_begin_67 (by decide) ?_
            have hin58 := h.1
            have h := h.2
            refine x_iast (a := 21) (k := 0) (n := 48) hx hb hK hP hAd hS (in1m hC (a := 21) (by decide) (by decide)) (fun _ => rfl) hin58 dX5_begin_71 (fun H locs hP hS => ?_)
            obtain ⟨σ56, e57⟩ : ∃ z, z = sI σ39 21 0 (ix y2) 2 := ⟨_, rfl⟩
            rw [← e57] at hP
            have h := h σ56 e57
            refine lv_aload_n hx hb dX5_begin_72 rfl (lv_at hl 1 rfl) ?_
            refine x_get (C := RX5) (T := TX5) (N := 25) (ci := 5) (a := 20) (k := 0) (v := .ref (ad (23, 0))) hx hb hts iw_X5_begin_X5 hown hK hP (in1m hC (a := 20) (by decide) (by decide)) rfl rfl 3 (by decide) (hts (.fieldLink RX5 17 "PageOwnersModel" "guess" "[I") (by decide +kernel)) (fun _ h9 => h9) rfl dX5_begin_73 ?_
            refine lv_iload_n hx hb dX5_begin_76 rfl (lv_at hl 3 rfl) ?_
            refine lv_iload_n hx hb dX5_begin_77 rfl (lv_at hl 0 rfl) ?_
            refine lv_iload_n hx hb dX5_begin_78 rfl (lv_at hl 2 rfl) ?_
            refine lv_irem hx hb dX5_begin_79 h.1 ?_
            have h := h.2
            have hin61 := h.1
            have h := h.2
            refine x_iast (a := 23) (k := 0) (n := 48) hx hb hK hP hAd hS (in1m hC (a := 23) (by decide) (by decide)) (fun _ => rfl) hin61 dX5_begin_80 (fun H locs hP hS => ?_)
            obtain ⟨σ59, e60⟩ : ∃ z, z = sI σ56 23 0 (ix y2) ((y2 - y2 / 8 * 8) - (y2 - y2 / 8 * 8) / x1 * x1) := ⟨_, rfl⟩
            rw [← e60] at hP
            have h := h σ59 e60
            refine lv_aload_n hx hb dX5_begin_81 rfl (lv_at hl 1 rfl) ?_
            refine x_get (C := RX5) (T := TX5) (N := 25) (ci := 5) (a := 20) (k := 0) (v := .ref (ad (24, 0))) hx hb hts iw_X5_begin_X5 hown hK hP (in1m hC (a := 20) (by decide) (by decide)) rfl rfl 4 (by decide) (hts (.fieldLink RX5 20 "PageOwnersModel" "copies" "[I") (by decide +kernel)) (fun _ h9 => h9) rfl dX5_begin_82 ?_
            refine lv_iload_n hx hb dX5_begin_85 rfl (lv_at hl 3 rfl) ?_
            refine lv_iconst (v := 0) hx hb dX5_begin_86 (by decide) ?_
            have hin64 := h.1
            have h := h.2
            refine x_iast (a := 24) (k := 0) (n := 48) hx hb hK hP hAd hS (in1m hC (a := 24) (by decide) (by decide)) (fun _ => rfl) hin64 dX5_begin_87 (fun H locs hP hS => ?_)
            obtain ⟨σ62, e63⟩ : ∃ z, z = sI σ59 24 0 (ix y2) 0 := ⟨_, rfl⟩
            rw [← e63] at hP
            have h := h σ62 e63
            refine lv_aload_n hx hb dX5_begin_88 rfl (lv_at hl 1 rfl) ?_
            refine x_get (C := RX5) (T := TX5) (N := 25) (ci := 5) (a := 20) (k := 0) (v := .ref (ad (27, 0))) hx hb hts iw_X5_begin_X5 hown hK hP (in1m hC (a := 20) (by decide) (by decide)) rfl rfl 7 (by decide) (hts (.fieldLink RX5 30 "PageOwnersModel" "queued" "[I") (by decide +kernel)) (fun _ h9 => h9) rfl dX5_begin_89 ?_
            refine lv_iload_n hx hb dX5_begin_92 rfl (lv_at hl 3 rfl) ?_
            refine lv_iconst (v := 0) hx hb dX5_begin_93 (by decide) ?_
            have hin67 := h.1
            have h := h.2
            refine x_iast (a := 27) (k := 0) (n := 48) hx hb hK hP hAd hS (in1m hC (a := 27) (by decide) (by decide)) (fun _ => rfl) hin67 dX5_begin_94 (fun H locs hP hS => ?_)
            obtain ⟨σ65, e66⟩ : ∃ z, z = sI σ62 27 0 (ix y2) 0 := ⟨_, rfl⟩
            rw [← e66] at hP
            have h := h σ65 e66
            refine lv_iinc (v := (y2 + 1)) (lv' := [(2, .int (y2 + 1)), (3, .int (y2 - y2 / 8 * 8)), (0, .ref (ad (20, 0))), (1, .int x1)]) hx hb dX5_begin_95 hl (k := 3) rfl rfl (by decide) rfl (fun ls hl => ?_)
            refine lv_goto (tgt := 20) hx hb dX5_begin_98 (by decide) ?_
            exact ih σ65 (y2 + 1) _ _ _ h hP hS (lv_sub hl [2, 3, 0] rfl)
  unfold wp_X5_begin at h
  refine lv_iload_n hx hb dX5_begin_0 rfl (lv_at hl 1 rfl) ?_
  refine lv_iconst (v := 2) hx hb dX5_begin_1 (by decide) ?_
  refine lv_icmp_lt (tgt := 11) hx hb dX5_begin_2 (by decide) (fun c1 => ?_) (fun c1 => ?_)
  · have h := h.1 c1
    refine lv_iconst (v := 0) hx hb dX5_begin_11 (by decide) ?_
    exact W.zret (v := 0) hx hb hr rfl (fun t ht hW => ⟨⟨0, σ, rfl, h, by rw [ht]; exact hP, va_K.moved hW.alike hK⟩, hS.F ht⟩) hS.2.2 dX5_begin_12
  · have h := h.2 c1
    refine lv_iload_n hx hb dX5_begin_5 rfl (lv_at hl 1 rfl) ?_
    refine lv_bipush (v := 6) hx hb dX5_begin_6 (by decide) ?_
    refine lv_icmp_le (tgt := 13) hx hb dX5_begin_8 (by decide) (fun c2 => ?_) (fun c2 => ?_)
    · have h := h.1 c2
      refine lv_aload_n hx hb dX5_begin_13 rfl (lv_at hl 0 rfl) ?_
      refine lv_iload_n hx hb dX5_begin_14 rfl (lv_at hl 1 rfl) ?_
      refine x_puti (C := RX5) (T := TX5) (N := 25) (ci := 5) (a := 20) (k := 0) (v := x1) (ty := .int) hx hb hts iw_X5_begin_X5 tyX5 tyX5_ok nmX5 hown hK hP hAd hS (in1m hC (a := 20) (by decide) (by decide)) rfl rfl 0 (by decide) (hts (.fieldLink RX5 85 "PageOwnersModel" "nodes" "I") (by decide +kernel)) (fun _ h9 => h9) rfl (by decide +kernel) rfl rfl (Nat.le_of_ble_eq_true rfl) rfl dX5_begin_15 (fun H locs hP hS => ?_)
      obtain ⟨σ3, e4⟩ : ∃ z, z = sI σ 20 0 0 x1 := ⟨_, rfl⟩
      rw [← e4] at hP
      have h := h σ3 e4
      refine lv_iconst (v := 0) hx hb dX5_begin_18 (by decide) ?_
      refine lv_istore_n (lv' := [(2, .int 0), (0, .ref (ad (20, 0))), (1, .int x1)]) hx hb dX5_begin_19 rfl hl (by decide) rfl (fun ls hl => ?_)
      obtain ⟨n97, h⟩ := h
      exact L20 n97 σ3 0 _ _ _ h hP hS (lv_sub hl [1, 2, 0] rfl)
    · have h := h.2 c2
      refine lv_iconst (v := 0) hx hb dX5_begin_11 (by decide) ?_
      exact W.zret (v := 0) hx hb hr rfl (fun t ht hW => ⟨⟨0, σ, rfl, h, by rw [ht]; exact hP, va_K.moved hW.alike hK⟩, hS.F ht⟩) hS.2.2 dX5_begin_12
theorem iw_X5_isNode_X5 : ∀ w ∈ wsX50, w ∈ wsX5_isNode := fun _ h => List.mem_cons_of_mem _ (List.mem_append_right _ h)
def wp_X5_isNode (σ : Sg) (x1 : Int32) (Q : Sg → Int32 → Prop) : Prop := ((x1 < 0 → (Q σ 0)) ∧ (¬ (x1 < 0) → (((σ.1 20 0 0) ≤ x1 → (Q σ 0)) ∧ (¬ ((σ.1 20 0 0) ≤ x1) → (Q σ 1)))))
abbrev rm_X5_isNode : Room := { frames := 0, cells := 0, slots := 0, locals := 0 }
set_option maxHeartbeats 4000000 in
set_option maxRecDepth 100000 in
theorem c_X5_isNode (l : Launch) {D : va_G} {P : List (Nat × Nat)} {ad : Nat × Nat → Nat} {cy : Nat → ClassId} (hAd : AdOk P ad) (hC : InM P) (σ : Sg) (x1 : Int32) (Q : Sg → Int32 → Prop) (h : wp_X5_isNode σ x1 Q) : Met l yX5_isNode wsX5_isNode rm_X5_isNode (xPc D P ad cy σ [.ref (ad (20, 0)), .int x1]) (va_Qi (fun r σ' => Q σ' r) (xB D P ad cy) (Aof P ad)) 0 0 (Aof P ad) := by
  refine Met.ofW (cc := cX5_isNode) (maxL := 2) (ret := (some .boolean)) (by decide +kernel) rfl ?_
  intro p e s m args below meth c s₁ B hml hv
  obtain ⟨rfl, hP, hK⟩ := hv
  have hx := B.exec
  have hb := B.bytes
  have hr := B.returns
  have hts := atoms_spec (ws := wsX5_isNode) B.pre
  have hown : s.vm.findClass RX5 = some m.cls := findClass_of_methodNamed B.named
  have hlocks := B.notSynchronized
  have hS : va_S (Aof P ad) s.heap s.heap [] := va_S.rf
  have hl := lv_entry ([.ref (ad (20, 0)), .int x1] : List Value) (n := 2) (Nat.le_of_ble_eq_true rfl)
  rw [lg_entry_eq]
  generalize (lg_sl ([.ref (ad (20, 0)), .int x1] : List Value) ++ List.replicate (2 - (lg_sl ([.ref (ad (20, 0)), .int x1] : List Value)).length) Slot.unset).toArray = ls at hl ⊢
  have hl : lv_has ls 2 [(0, .ref (ad (20, 0))), (1, .int x1)] := hl
  unfold wp_X5_isNode at h
  refine lv_iload_n hx hb dX5_isNode_0 rfl (lv_at hl 1 rfl) ?_
  refine lv_if_lt (tgt := 16) hx hb dX5_isNode_1 (by decide) (fun c1 => ?_) (fun c1 => ?_)
  · have h := h.1 c1
    refine lv_iconst (v := 0) hx hb dX5_isNode_16 (by decide) ?_
    exact W.zret (v := 0) hx hb hr rfl (fun t ht hW => ⟨⟨0, σ, rfl, h, by rw [ht]; exact hP, va_K.moved hW.alike hK⟩, hS.F ht⟩) hS.2.2 dX5_isNode_17
  · have h := h.2 c1
    refine lv_iload_n hx hb dX5_isNode_4 rfl (lv_at hl 1 rfl) ?_
    refine lv_aload_n hx hb dX5_isNode_5 rfl (lv_at hl 0 rfl) ?_
    refine x_get (C := RX5) (T := TX5) (N := 25) (ci := 5) (a := 20) (k := 0) (v := .int (σ.1 20 0 0)) hx hb hts iw_X5_isNode_X5 hown hK hP (in1m hC (a := 20) (by decide) (by decide)) rfl rfl 0 (by decide) (hts (.fieldLink RX5 85 "PageOwnersModel" "nodes" "I") (by decide +kernel)) (fun _ h9 => h9) rfl dX5_isNode_6 ?_
    refine lv_icmp_ge (tgt := 16) hx hb dX5_isNode_9 (by decide) (fun c2 => ?_) (fun c2 => ?_)
    · have h := h.1 c2
      refine lv_iconst (v := 0) hx hb dX5_isNode_16 (by decide) ?_
      exact W.zret (v := 0) hx hb hr rfl (fun t ht hW => ⟨⟨0, σ, rfl, h, by rw [ht]; exact hP, va_K.moved hW.alike hK⟩, hS.F ht⟩) hS.2.2 dX5_isNode_17
    · have h := h.2 c2
      refine lv_iconst (v := 1) hx hb dX5_isNode_12 (by decide) ?_
      refine lv_goto (tgt := 17) hx hb dX5_isNode_13 (by decide) ?_
      exact W.zret (v := 1) hx hb hr rfl (fun t ht hW => ⟨⟨1, σ, rfl, h, by rw [ht]; exact hP, va_K.moved hW.alike hK⟩, hS.F ht⟩) hS.2.2 dX5_isNode_17
def wp_X5_isPage (σ : Sg) (x1 : Int32) (Q : Sg → Int32 → Prop) : Prop := ((x1 < 0 → (Q σ 0)) ∧ (¬ (x1 < 0) → ((8 ≤ x1 → (Q σ 0)) ∧ (¬ (8 ≤ x1) → (Q σ 1)))))
abbrev rm_X5_isPage : Room := { frames := 0, cells := 0, slots := 0, locals := 0 }
set_option maxHeartbeats 4000000 in
set_option maxRecDepth 100000 in
theorem c_X5_isPage (l : Launch) {D : va_G} {P : List (Nat × Nat)} {ad : Nat × Nat → Nat} {cy : Nat → ClassId} (hAd : AdOk P ad) (hC : InM P) (σ : Sg) (x1 : Int32) (Q : Sg → Int32 → Prop) (h : wp_X5_isPage σ x1 Q) : Met l yX5_isPage wsX5_isPage rm_X5_isPage (xPc D P ad cy σ [.int x1]) (va_Qi (fun r σ' => Q σ' r) (xB D P ad cy) (Aof P ad)) 0 0 (Aof P ad) := by
  refine Met.ofW (cc := cX5_isPage) (maxL := 1) (ret := (some .boolean)) (by decide +kernel) rfl ?_
  intro p e s m args below meth c s₁ B hml hv
  obtain ⟨rfl, hP, hK⟩ := hv
  have hx := B.exec
  have hb := B.bytes
  have hr := B.returns
  have hts := atoms_spec (ws := wsX5_isPage) B.pre
  have hown : s.vm.findClass RX5 = some m.cls := findClass_of_methodNamed B.named
  have hlocks := B.notSynchronized
  have hS : va_S (Aof P ad) s.heap s.heap [] := va_S.rf
  have hl := lv_entry ([.int x1] : List Value) (n := 1) (Nat.le_of_ble_eq_true rfl)
  rw [lg_entry_eq]
  generalize (lg_sl ([.int x1] : List Value) ++ List.replicate (1 - (lg_sl ([.int x1] : List Value)).length) Slot.unset).toArray = ls at hl ⊢
  have hl : lv_has ls 1 [(0, .int x1)] := hl
  unfold wp_X5_isPage at h
  refine lv_iload_n hx hb dX5_isPage_0 rfl (lv_at hl 0 rfl) ?_
  refine lv_if_lt (tgt := 14) hx hb dX5_isPage_1 (by decide) (fun c1 => ?_) (fun c1 => ?_)
  · have h := h.1 c1
    refine lv_iconst (v := 0) hx hb dX5_isPage_14 (by decide) ?_
    exact W.zret (v := 0) hx hb hr rfl (fun t ht hW => ⟨⟨0, σ, rfl, h, by rw [ht]; exact hP, va_K.moved hW.alike hK⟩, hS.F ht⟩) hS.2.2 dX5_isPage_15
  · have h := h.2 c1
    refine lv_iload_n hx hb dX5_isPage_4 rfl (lv_at hl 0 rfl) ?_
    refine lv_bipush (v := 8) hx hb dX5_isPage_5 (by decide) ?_
    refine lv_icmp_ge (tgt := 14) hx hb dX5_isPage_7 (by decide) (fun c2 => ?_) (fun c2 => ?_)
    · have h := h.1 c2
      refine lv_iconst (v := 0) hx hb dX5_isPage_14 (by decide) ?_
      exact W.zret (v := 0) hx hb hr rfl (fun t ht hW => ⟨⟨0, σ, rfl, h, by rw [ht]; exact hP, va_K.moved hW.alike hK⟩, hS.F ht⟩) hS.2.2 dX5_isPage_15
    · have h := h.2 c2
      refine lv_iconst (v := 1) hx hb dX5_isPage_10 (by decide) ?_
      refine lv_goto (tgt := 15) hx hb dX5_isPage_11 (by decide) ?_
      exact W.zret (v := 1) hx hb hr rfl (fun t ht hW => ⟨⟨1, σ, rfl, h, by rw [ht]; exact hP, va_K.moved hW.alike hK⟩, hS.F ht⟩) hS.2.2 dX5_isPage_15
def wp_X5_place (σ : Sg) (x1 : Int32) (x2 : Int32) (Q : Sg → Int32 → Prop) : Prop := Q σ ((8 * x1) + x2)
abbrev rm_X5_place : Room := { frames := 0, cells := 0, slots := 0, locals := 0 }
set_option maxHeartbeats 4000000 in
set_option maxRecDepth 100000 in
theorem c_X5_place (l : Launch) {D : va_G} {P : List (Nat × Nat)} {ad : Nat × Nat → Nat} {cy : Nat → ClassId} (hAd : AdOk P ad) (hC : InM P) (σ : Sg) (x1 : Int32) (x2 : Int32) (Q : Sg → Int32 → Prop) (h : wp_X5_place σ x1 x2 Q) : Met l yX5_place wsX5_place rm_X5_place (xPc D P ad cy σ [.int x1, .int x2]) (va_Qi (fun r σ' => Q σ' r) (xB D P ad cy) (Aof P ad)) 0 0 (Aof P ad) := by
  refine Met.ofW (cc := cX5_place) (maxL := 2) (ret := (some .int)) (by decide +kernel) rfl ?_
  intro p e s m args below meth c s₁ B hml hv
  obtain ⟨rfl, hP, hK⟩ := hv
  have hx := B.exec
  have hb := B.bytes
  have hr := B.returns
  have hts := atoms_spec (ws := wsX5_place) B.pre
  have hown : s.vm.findClass RX5 = some m.cls := findClass_of_methodNamed B.named
  have hlocks := B.notSynchronized
  have hS : va_S (Aof P ad) s.heap s.heap [] := va_S.rf
  have hl := lv_entry ([.int x1, .int x2] : List Value) (n := 2) (Nat.le_of_ble_eq_true rfl)
  rw [lg_entry_eq]
  generalize (lg_sl ([.int x1, .int x2] : List Value) ++ List.replicate (2 - (lg_sl ([.int x1, .int x2] : List Value)).length) Slot.unset).toArray = ls at hl ⊢
  have hl : lv_has ls 2 [(0, .int x1), (1, .int x2)] := hl
  unfold wp_X5_place at h
  refine lv_bipush (v := 8) hx hb dX5_place_0 (by decide) ?_
  refine lv_iload_n hx hb dX5_place_2 rfl (lv_at hl 0 rfl) ?_
  refine lv_imul hx hb dX5_place_3 ?_
  refine lv_iload_n hx hb dX5_place_4 rfl (lv_at hl 1 rfl) ?_
  refine lv_iadd hx hb dX5_place_5 ?_
  exact W.iret (v := ((8 * x1) + x2)) hx hb hr (fun t ht hW => ⟨⟨((8 * x1) + x2), σ, rfl, h, by rw [ht]; exact hP, va_K.moved hW.alike hK⟩, hS.F ht⟩) hS.2.2 dX5_place_6
theorem iw_X5_send_X5 : ∀ w ∈ wsX50, w ∈ wsX5_send := fun _ h => List.mem_cons_of_mem _ (List.mem_append_right _ h)
def lp_X5_send_73 (x1 : Int32) (x2 : Int32) (x3 : Int32) (x4 : Int32) (x5 : Int32) (x6 : Int32) (Q : Sg → Prop) : Nat → Sg → Int32 → Int32 → Prop
  | 0, _, _, _ => False
  | n + 1, σ, y7, y8 => ((4 ≤ y8 → (∀ σ20, σ20 = sI σ 20 0 20 ((σ.1 20 0 20) + 1) → (∀ σ22, σ22 = sI σ20 41 0 (ix 1) ((σ20.1 41 0 (ix 1)) + 1) → Q σ22))) ∧ (¬ (4 ≤ y8) → ((x1 = 3 → (wp_X5_place σ x2 x4 (fun σ25 r26 => (vp_in ((4 * r26) + y8) 192 ∧ (vp_in ((4 * (σ.1 20 0 20)) + y8) 800 ∧ (∀ σ29, σ29 = sL σ25 39 0 (ix ((4 * (σ.1 20 0 20)) + y8)) (σ25.2.1 25 0 (ix ((4 * r26) + y8))) → lp_X5_send_73 x1 x2 x3 x4 x5 x6 Q n σ29 y7 (y8 + 1))))))) ∧ (¬ (x1 = 3) → ((x1 = 4 → (wp_X5_place σ x2 x4 (fun σ33 r34 => (vp_in ((4 * r34) + y8) 192 ∧ (vp_in ((4 * (σ.1 20 0 20)) + y8) 800 ∧ (∀ σ37, σ37 = sL σ33 39 0 (ix ((4 * (σ.1 20 0 20)) + y8)) (σ33.2.1 25 0 (ix ((4 * r34) + y8))) → lp_X5_send_73 x1 x2 x3 x4 x5 x6 Q n σ37 y7 (y8 + 1))))))) ∧ (¬ (x1 = 4) → (vp_in ((4 * (σ.1 20 0 20)) + y8) 800 ∧ (∀ σ40, σ40 = sL σ 39 0 (ix ((4 * (σ.1 20 0 20)) + y8)) 0 → lp_X5_send_73 x1 x2 x3 x4 x5 x6 Q n σ40 y7 (y8 + 1)))))))))
def wp_X5_send (σ : Sg) (x1 : Int32) (x2 : Int32) (x3 : Int32) (x4 : Int32) (x5 : Int32) (x6 : Int32) (Q : Sg → Prop) : Prop := (vp_in (7 * (σ.1 20 0 20)) 1400 ∧ (∀ σ1, σ1 = sI σ 38 0 (ix (7 * (σ.1 20 0 20))) x1 → (vp_in ((7 * (σ.1 20 0 20)) + 1) 1400 ∧ (∀ σ4, σ4 = sI σ1 38 0 (ix ((7 * (σ.1 20 0 20)) + 1)) x2 → (vp_in ((7 * (σ.1 20 0 20)) + 2) 1400 ∧ (∀ σ7, σ7 = sI σ4 38 0 (ix ((7 * (σ.1 20 0 20)) + 2)) x3 → (vp_in ((7 * (σ.1 20 0 20)) + 3) 1400 ∧ (∀ σ10, σ10 = sI σ7 38 0 (ix ((7 * (σ.1 20 0 20)) + 3)) x4 → (vp_in ((7 * (σ.1 20 0 20)) + 4) 1400 ∧ (∀ σ13, σ13 = sI σ10 38 0 (ix ((7 * (σ.1 20 0 20)) + 4)) x5 → (vp_in ((7 * (σ.1 20 0 20)) + 5) 1400 ∧ (∀ σ16, σ16 = sI σ13 38 0 (ix ((7 * (σ.1 20 0 20)) + 5)) x6 → (∃ n43, lp_X5_send_73 x1 x2 x3 x4 x5 x6 Q n43 σ16 (7 * (σ.1 20 0 20)) 0)))))))))))))
abbrev rm_X5_send : Room := { frames := 1, cells := 0, slots := 0, locals := 21 }
set_option maxHeartbeats 4000000 in
set_option maxRecDepth 100000 in
theorem c_X5_send (l : Launch) {D : va_G} {P : List (Nat × Nat)} {ad : Nat × Nat → Nat} {cy : Nat → ClassId} (hAd : AdOk P ad) (hC : InM P) (σ : Sg) (x1 : Int32) (x2 : Int32) (x3 : Int32) (x4 : Int32) (x5 : Int32) (x6 : Int32) (Q : Sg → Prop) (h : wp_X5_send σ x1 x2 x3 x4 x5 x6 Q) : Met l yX5_send wsX5_send rm_X5_send (xPc D P ad cy σ [.ref (ad (20, 0)), .int x1, .int x2, .int x3, .int x4, .int x5, .int x6]) (va_Qv Q (xB D P ad cy) (Aof P ad)) 0 0 (Aof P ad) := by
  refine Met.ofW (cc := cX5_send) (maxL := 9) (ret := none) (by decide +kernel) rfl ?_
  intro p e s m args below meth c s₁ B hml hv
  obtain ⟨rfl, hP, hK⟩ := hv
  have hx := B.exec
  have hb := B.bytes
  have hr := B.returns
  have hts := atoms_spec (ws := wsX5_send) B.pre
  have hown : s.vm.findClass RX5 = some m.cls := findClass_of_methodNamed B.named
  have hlocks := B.notSynchronized
  have hS : va_S (Aof P ad) s.heap s.heap [] := va_S.rf
  have hl := lv_entry ([.ref (ad (20, 0)), .int x1, .int x2, .int x3, .int x4, .int x5, .int x6] : List Value) (n := 9) (Nat.le_of_ble_eq_true rfl)
  rw [lg_entry_eq]
  generalize (lg_sl ([.ref (ad (20, 0)), .int x1, .int x2, .int x3, .int x4, .int x5, .int x6] : List Value) ++ List.replicate (9 - (lg_sl ([.ref (ad (20, 0)), .int x1, .int x2, .int x3, .int x4, .int x5, .int x6] : List Value)).length) Slot.unset).toArray = ls at hl ⊢
  have hl : lv_has ls 9 [(0, .ref (ad (20, 0))), (1, .int x1), (2, .int x2), (3, .int x3), (4, .int x4), (5, .int x5), (6, .int x6)] := hl
  have L73 : ∀ (n : Nat) (σ : Sg) (y7 : Int32) (y8 : Int32) (H : Heap) (locs : List Loc) (ls : Array Slot), lp_X5_send_73 x1 x2 x3 x4 x5 x6 Q n σ y7 y8 → Wo D P ad cy σ H → va_S (Aof P ad) s.heap H locs → lv_has ls 9 [(0, .ref (ad (20, 0))), (1, .int x1), (2, .int x2), (3, .int x3), (4, .int x4), (5, .int x5), (6, .int x6), (7, .int y7), (8, .int y8)] → W p l e (headSpec wsX5_send rm_X5_send).room s m ([.ref (ad (20, 0)), .int x1, .int x2, .int x3, .int x4, .int x5, .int x6] : List Value).toArray below meth c H locs 0 0 (MQ below (va_Qv Q (xB D P ad cy) (Aof P ad)) ([.ref (ad (20, 0)), .int x1, .int x2, .int x3, .int x4, .int x5, .int x6] : List Value).toArray s 0 0 (Aof P ad)) (F0 m 73 ls []) := by
    intro n
    induction n with
    | zero =>
      intro σ y7 y8 H locs ls h
      exact h.elim
    | succ n ih =>
      intro σ y7 y8 H locs ls h hP hS hl
      rw [lp_X5_send_73] at h
      refine lv_iload hx hb dX5_send_73 (lv_at hl 8 rfl) ?_
      refine lv_iconst (v := 4) hx hb dX5_send_75 (by decide) ?_
      refine lv_icmp_ge (tgt := 129) hx hb dX5_send_76 (by decide) (fun c19 => ?_) (fun c19 => ?_)
      · have h := h.1 c19
        refine lv_aload_n hx hb dX5_send_129 rfl (lv_at hl 0 rfl) ?_
        refine lv_dup hx hb dX5_send_130 rfl ?_
        refine x_get (C := RX5) (T := TX5) (N := 25) (ci := 5) (a := 20) (k := 0) (v := .int (σ.1 20 0 20)) hx hb hts iw_X5_send_X5 hown hK hP (in1m hC (a := 20) (by decide) (by decide)) rfl rfl 20 (by decide) (hts (.fieldLink RX5 89 "PageOwnersModel" "flying" "I") (by decide +kernel)) (fun _ h9 => h9) rfl dX5_send_131 ?_
        refine lv_iconst (v := 1) hx hb dX5_send_134 (by decide) ?_
        refine lv_iadd hx hb dX5_send_135 ?_
        refine x_puti (C := RX5) (T := TX5) (N := 25) (ci := 5) (a := 20) (k := 0) (v := ((σ.1 20 0 20) + 1)) (ty := .int) hx hb hts iw_X5_send_X5 tyX5 tyX5_ok nmX5 hown hK hP hAd hS (in1m hC (a := 20) (by decide) (by decide)) rfl rfl 20 (by decide) (hts (.fieldLink RX5 89 "PageOwnersModel" "flying" "I") (by decide +kernel)) (fun _ h9 => h9) rfl (by decide +kernel) rfl rfl (Nat.le_of_ble_eq_true rfl) rfl dX5_send_136 (fun H locs hP hS => ?_)
        obtain ⟨σ20, e21⟩ : ∃ z, z = sI σ 20 0 20 ((σ.1 20 0 20) + 1) := ⟨_, rfl⟩
        rw [← e21] at hP
        have h := h σ20 e21
        refine lv_aload_n hx hb dX5_send_139 rfl (lv_at hl 0 rfl) ?_
        refine x_get (C := RX5) (T := TX5) (N := 25) (ci := 5) (a := 20) (k := 0) (v := .ref (ad (41, 0))) hx hb hts iw_X5_send_X5 hown hK hP (in1m hC (a := 20) (by decide) (by decide)) rfl rfl 21 (by decide) (hts (.fieldLink RX5 69 "PageOwnersModel" "counts" "[I") (by decide +kernel)) (fun _ h9 => h9) rfl dX5_send_140 ?_
        refine lv_iconst (v := 1) hx hb dX5_send_143 (by decide) ?_
        refine lv_dup2_11 hx hb dX5_send_144 rfl rfl ?_
        refine x_iald (a := 41) (k := 0) (n := 8) hx hb hK hP (in1m hC (a := 41) (by decide) (by decide)) (fun _ => rfl) (by unfold vp_in; decide) dX5_send_145 ?_
        refine lv_iconst (v := 1) hx hb dX5_send_146 (by decide) ?_
        refine lv_iadd hx hb dX5_send_147 ?_
        refine x_iast (a := 41) (k := 0) (n := 8) hx hb hK hP hAd hS (in1m hC (a := 41) (by decide) (by decide)) (fun _ => rfl) (by unfold vp_in; decide) dX5_send_148 (fun H locs hP hS => ?_)
        obtain ⟨σ22, e23⟩ : ∃ z, z = sI σ20 41 0 (ix 1) ((σ20.1 41 0 (ix 1)) + 1) := ⟨_, rfl⟩
        rw [← e23] at hP
        have h := h σ22 e23
        exact W.vret hx hb hr (fun t ht hW => ⟨⟨σ22, rfl, h, by rw [ht]; exact hP, va_K.moved hW.alike hK⟩, hS.F ht⟩) hS.2.2 dX5_send_149
      · have h := h.2 c19
        refine lv_aload_n hx hb dX5_send_79 rfl (lv_at hl 0 rfl) ?_
        refine x_get (C := RX5) (T := TX5) (N := 25) (ci := 5) (a := 20) (k := 0) (v := .ref (ad (39, 0))) hx hb hts iw_X5_send_X5 hown hK hP (in1m hC (a := 20) (by decide) (by decide)) rfl rfl 19 (by decide) (hts (.fieldLink RX5 66 "PageOwnersModel" "letterWords" "[J") (by decide +kernel)) (fun _ h9 => h9) rfl dX5_send_80 ?_
        refine lv_iconst (v := 4) hx hb dX5_send_83 (by decide) ?_
        refine lv_aload_n hx hb dX5_send_84 rfl (lv_at hl 0 rfl) ?_
        refine x_get (C := RX5) (T := TX5) (N := 25) (ci := 5) (a := 20) (k := 0) (v := .int (σ.1 20 0 20)) hx hb hts iw_X5_send_X5 hown hK hP (in1m hC (a := 20) (by decide) (by decide)) rfl rfl 20 (by decide) (hts (.fieldLink RX5 89 "PageOwnersModel" "flying" "I") (by decide +kernel)) (fun _ h9 => h9) rfl dX5_send_85 ?_
        refine lv_imul hx hb dX5_send_88 ?_
        refine lv_iload hx hb dX5_send_89 (lv_at hl 8 rfl) ?_
        refine lv_iadd hx hb dX5_send_91 ?_
        refine lv_iload_n hx hb dX5_send_92 rfl (lv_at hl 1 rfl) ?_
        refine lv_iconst (v := 3) hx hb dX5_send_93 (by decide) ?_
        refine lv_icmp_eq (tgt := 102) hx hb dX5_send_94 (by decide) (fun c24 => ?_) (fun c24 => ?_)
        · have h := h.1 c24
          refine lv_aload_n hx hb dX5_send_102 rfl (lv_at hl 0 rfl) ?_
          refine x_get (C := RX5) (T := TX5) (N := 25) (ci := 5) (a := 20) (k := 0) (v := .ref (ad (25, 0))) hx hb hts iw_X5_send_X5 hown hK hP (in1m hC (a := 20) (by decide) (by decide)) rfl rfl 5 (by decide) (hts (.fieldLink RX5 23 "PageOwnersModel" "words" "[J") (by decide +kernel)) (fun _ h9 => h9) rfl dX5_send_103 ?_
          refine lv_iconst (v := 4) hx hb dX5_send_106 (by decide) ?_
          refine lv_iload_n hx hb dX5_send_107 rfl (lv_at hl 2 rfl) ?_
          refine lv_iload hx hb dX5_send_108 (lv_at hl 4 rfl) ?_
          refine x_cSi (As := [.int x2, .int x4]) (rest := [.int 4, .ref (ad (25, 0)), .int ((4 * (σ.1 20 0 20)) + y8), .ref (ad (39, 0))]) ⟨hx, hb, hml, hown, hts⟩ hK hP hS (c_X5_place l hAd hC σ x2 x4 _ h) (va_cwS 2 hts gX5_send_X5_place rfl rfl rfl (by decide +kernel) ⟨Nat.le_of_ble_eq_true rfl, Nat.le_of_ble_eq_true rfl⟩) rfl hl.1 rfl (Nat.le_of_ble_eq_true rfl) dX5_send_110 ⟨Nat.zero_le _, Nat.zero_le _⟩ (fun r26 σ25 H locs h hP hS => ?_)
          refine lv_imul hx hb dX5_send_113 ?_
          refine lv_iload hx hb dX5_send_114 (lv_at hl 8 rfl) ?_
          refine lv_iadd hx hb dX5_send_116 ?_
          have hin28 := h.1
          have h := h.2
          refine x_lald (a := 25) (k := 0) (n := 192) hx hb hK hP (in1m hC (a := 25) (by decide) (by decide)) (fun _ => rfl) hin28 dX5_send_117 ?_
          refine lv_goto (tgt := 122) hx hb dX5_send_118 (by decide) ?_
          have hin31 := h.1
          have h := h.2
          refine x_last (a := 39) (k := 0) (n := 800) hx hb hK hP hAd hS (in1m hC (a := 39) (by decide) (by decide)) (fun _ => rfl) hin31 dX5_send_122 (fun H locs hP hS => ?_)
          obtain ⟨σ29, e30⟩ : ∃ z, z = sL σ25 39 0 (ix ((4 * (σ.1 20 0 20)) + y8)) (σ25.2.1 25 0 (ix ((4 * r26) + y8))) := ⟨_, rfl⟩
          rw [← e30] at hP
          have h := h σ29 e30
          refine lv_iinc (v := (y8 + 1)) (lv' := [(8, .int (y8 + 1)), (0, .ref (ad (20, 0))), (1, .int x1), (2, .int x2), (3, .int x3), (4, .int x4), (5, .int x5), (6, .int x6), (7, .int y7)]) hx hb dX5_send_123 hl (k := 8) rfl rfl (by decide) rfl (fun ls hl => ?_)
          refine lv_goto (tgt := 73) hx hb dX5_send_126 (by decide) ?_
          exact ih σ29 y7 (y8 + 1) _ _ _ h hP hS (lv_sub hl [1, 2, 3, 4, 5, 6, 7, 8, 0] rfl)
        · have h := h.2 c24
          refine lv_iload_n hx hb dX5_send_97 rfl (lv_at hl 1 rfl) ?_
          refine lv_iconst (v := 4) hx hb dX5_send_98 (by decide) ?_
          refine lv_icmp_ne (tgt := 121) hx hb dX5_send_99 (by decide) (fun c32 => ?_) (fun c32 => ?_)
          · have h := h.2 c32
            refine lv_lconst (v := 0) hx hb dX5_send_121 (by decide) ?_
            have hin42 := h.1
            have h := h.2
            refine x_last (a := 39) (k := 0) (n := 800) hx hb hK hP hAd hS (in1m hC (a := 39) (by decide) (by decide)) (fun _ => rfl) hin42 dX5_send_122 (fun H locs hP hS => ?_)
            obtain ⟨σ40, e41⟩ : ∃ z, z = sL σ 39 0 (ix ((4 * (σ.1 20 0 20)) + y8)) 0 := ⟨_, rfl⟩
            rw [← e41] at hP
            have h := h σ40 e41
            refine lv_iinc (v := (y8 + 1)) (lv' := [(8, .int (y8 + 1)), (0, .ref (ad (20, 0))), (1, .int x1), (2, .int x2), (3, .int x3), (4, .int x4), (5, .int x5), (6, .int x6), (7, .int y7)]) hx hb dX5_send_123 hl (k := 8) rfl rfl (by decide) rfl (fun ls hl => ?_)
            refine lv_goto (tgt := 73) hx hb dX5_send_126 (by decide) ?_
            exact ih σ40 y7 (y8 + 1) _ _ _ h hP hS (lv_sub hl [1, 2, 3, 4, 5, 6, 7, 8, 0] rfl)
          · have h := h.1 c32
            refine lv_aload_n hx hb dX5_send_102 rfl (lv_at hl 0 rfl) ?_
            refine x_get (C := RX5) (T := TX5) (N := 25) (ci := 5) (a := 20) (k := 0) (v := .ref (ad (25, 0))) hx hb hts iw_X5_send_X5 hown hK hP (in1m hC (a := 20) (by decide) (by decide)) rfl rfl 5 (by decide) (hts (.fieldLink RX5 23 "PageOwnersModel" "words" "[J") (by decide +kernel)) (fun _ h9 => h9) rfl dX5_send_103 ?_
            refine lv_iconst (v := 4) hx hb dX5_send_106 (by decide) ?_
            refine lv_iload_n hx hb dX5_send_107 rfl (lv_at hl 2 rfl) ?_
            refine lv_iload hx hb dX5_send_108 (lv_at hl 4 rfl) ?_
            refine x_cSi (As := [.int x2, .int x4]) (rest := [.int 4, .ref (ad (25, 0)), .int ((4 * (σ.1 20 0 20)) + y8), .ref (ad (39, 0))]) ⟨hx, hb, hml, hown, hts⟩ hK hP hS (c_X5_place l hAd hC σ x2 x4 _ h) (va_cwS 2 hts gX5_send_X5_place rfl rfl rfl (by decide +kernel) ⟨Nat.le_of_ble_eq_true rfl, Nat.le_of_ble_eq_true rfl⟩) rfl hl.1 rfl (Nat.le_of_ble_eq_true rfl) dX5_send_110 ⟨Nat.zero_le _, Nat.zero_le _⟩ (fun r34 σ33 H locs h hP hS => ?_)
            refine lv_imul hx hb dX5_send_113 ?_
            refine lv_iload hx hb dX5_send_114 (lv_at hl 8 rfl) ?_
            refine lv_iadd hx hb dX5_send_116 ?_
            have hin36 := h.1
            have h := h.2
            refine x_lald (a := 25) (k := 0) (n := 192) hx hb hK hP (in1m hC (a := 25) (by decide) (by decide)) (fun _ => rfl) hin36 dX5_send_117 ?_
            refine lv_goto (tgt := 122) hx hb dX5_send_118 (by decide) ?_
            have hin39 := h.1
            have h := h.2
            refine x_last (a := 39) (k := 0) (n := 800) hx hb hK hP hAd hS (in1m hC (a := 39) (by decide) (by decide)) (fun _ => rfl) hin39 dX5_send_122 (fun H locs hP hS => ?_)
            obtain ⟨σ37, e38⟩ : ∃ z, z = sL σ33 39 0 (ix ((4 * (σ.1 20 0 20)) + y8)) (σ33.2.1 25 0 (ix ((4 * r34) + y8))) := ⟨_, rfl⟩
            rw [← e38] at hP
            have h := h σ37 e38
            refine lv_iinc (v := (y8 + 1)) (lv' := [(8, .int (y8 + 1)), (0, .ref (ad (20, 0))), (1, .int x1), (2, .int x2), (3, .int x3), (4, .int x4), (5, .int x5), (6, .int x6), (7, .int y7)]) hx hb dX5_send_123 hl (k := 8) rfl rfl (by decide) rfl (fun ls hl => ?_)
            refine lv_goto (tgt := 73) hx hb dX5_send_126 (by decide) ?_
            exact ih σ37 y7 (y8 + 1) _ _ _ h hP hS (lv_sub hl [1, 2, 3, 4, 5, 6, 7, 8, 0] rfl)
  unfold wp_X5_send at h
  refine lv_bipush (v := 7) hx hb dX5_send_0 (by decide) ?_
  refine lv_aload_n hx hb dX5_send_2 rfl (lv_at hl 0 rfl) ?_
  refine x_get (C := RX5) (T := TX5) (N := 25) (ci := 5) (a := 20) (k := 0) (v := .int (σ.1 20 0 20)) hx hb hts iw_X5_send_X5 hown hK hP (in1m hC (a := 20) (by decide) (by decide)) rfl rfl 20 (by decide) (hts (.fieldLink RX5 89 "PageOwnersModel" "flying" "I") (by decide +kernel)) (fun _ h9 => h9) rfl dX5_send_3 ?_
  refine lv_imul hx hb dX5_send_6 ?_
  refine lv_istore (lv' := [(7, .int (7 * (σ.1 20 0 20))), (0, .ref (ad (20, 0))), (1, .int x1), (2, .int x2), (3, .int x3), (4, .int x4), (5, .int x5), (6, .int x6)]) hx hb dX5_send_7 hl (by decide) rfl (fun ls hl => ?_)
  refine lv_aload_n hx hb dX5_send_9 rfl (lv_at hl 1 rfl) ?_
  refine x_get (C := RX5) (T := TX5) (N := 25) (ci := 5) (a := 20) (k := 0) (v := .ref (ad (38, 0))) hx hb hts iw_X5_send_X5 hown hK hP (in1m hC (a := 20) (by decide) (by decide)) rfl rfl 18 (by decide) (hts (.fieldLink RX5 63 "PageOwnersModel" "letters" "[I") (by decide +kernel)) (fun _ h9 => h9) rfl dX5_send_10 ?_
  refine lv_iload hx hb dX5_send_13 (lv_at hl 0 rfl) ?_
  refine lv_iload_n hx hb dX5_send_15 rfl (lv_at hl 2 rfl) ?_
  have hin3 := h.1
  have h := h.2
  refine x_iast (a := 38) (k := 0) (n := 1400) hx hb hK hP hAd hS (in1m hC (a := 38) (by decide) (by decide)) (fun _ => rfl) hin3 dX5_send_16 (fun H locs hP hS => ?_)
  obtain ⟨σ1, e2⟩ : ∃ z, z = sI σ 38 0 (ix (7 * (σ.1 20 0 20))) x1 := ⟨_, rfl⟩
  rw [← e2] at hP
  have h := h σ1 e2
  refine lv_aload_n hx hb dX5_send_17 rfl (lv_at hl 1 rfl) ?_
  refine x_get (C := RX5) (T := TX5) (N := 25) (ci := 5) (a := 20) (k := 0) (v := .ref (ad (38, 0))) hx hb hts iw_X5_send_X5 hown hK hP (in1m hC (a := 20) (by decide) (by decide)) rfl rfl 18 (by decide) (hts (.fieldLink RX5 63 "PageOwnersModel" "letters" "[I") (by decide +kernel)) (fun _ h9 => h9) rfl dX5_send_18 ?_
  refine lv_iload hx hb dX5_send_21 (lv_at hl 0 rfl) ?_
  refine lv_iconst (v := 1) hx hb dX5_send_23 (by decide) ?_
  refine lv_iadd hx hb dX5_send_24 ?_
  refine lv_iload_n hx hb dX5_send_25 rfl (lv_at hl 3 rfl) ?_
  have hin6 := h.1
  have h := h.2
  refine x_iast (a := 38) (k := 0) (n := 1400) hx hb hK hP hAd hS (in1m hC (a := 38) (by decide) (by decide)) (fun _ => rfl) hin6 dX5_send_26 (fun H locs hP hS => ?_)
  obtain ⟨σ4, e5⟩ : ∃ z, z = sI σ1 38 0 (ix ((7 * (σ.1 20 0 20)) + 1)) x2 := ⟨_, rfl⟩
  rw [← e5] at hP
  have h := h σ4 e5
  refine lv_aload_n hx hb dX5_send_27 rfl (lv_at hl 1 rfl) ?_
  refine x_get (C := RX5) (T := TX5) (N := 25) (ci := 5) (a := 20) (k := 0) (v := .ref (ad (38, 0))) hx hb hts iw_X5_send_X5 hown hK hP (in1m hC (a := 20) (by decide) (by decide)) rfl rfl 18 (by decide) (hts (.fieldLink RX5 63 "PageOwnersModel" "letters" "[I") (by decide +kernel)) (fun _ h9 => h9) rfl dX5_send_28 ?_
  refine lv_iload hx hb dX5_send_31 (lv_at hl 0 rfl) ?_
  refine lv_iconst (v := 2) hx hb dX5_send_33 (by decide) ?_
  refine lv_iadd hx hb dX5_send_34 ?_
  refine lv_iload_n hx hb dX5_send_35 rfl (lv_at hl 4 rfl) ?_
  have hin9 := h.1
  have h := h.2
  refine x_iast (a := 38) (k := 0) (n := 1400) hx hb hK hP hAd hS (in1m hC (a := 38) (by decide) (by decide)) (fun _ => rfl) hin9 dX5_send_36 (fun H locs hP hS => ?_)
  obtain ⟨σ7, e8⟩ : ∃ z, z = sI σ4 38 0 (ix ((7 * (σ.1 20 0 20)) + 2)) x3 := ⟨_, rfl⟩
  rw [← e8] at hP
  have h := h σ7 e8
  refine lv_aload_n hx hb dX5_send_37 rfl (lv_at hl 1 rfl) ?_
  refine x_get (C := RX5) (T := TX5) (N := 25) (ci := 5) (a := 20) (k := 0) (v := .ref (ad (38, 0))) hx hb hts iw_X5_send_X5 hown hK hP (in1m hC (a := 20) (by decide) (by decide)) rfl rfl 18 (by decide) (hts (.fieldLink RX5 63 "PageOwnersModel" "letters" "[I") (by decide +kernel)) (fun _ h9 => h9) rfl dX5_send_38 ?_
  refine lv_iload hx hb dX5_send_41 (lv_at hl 0 rfl) ?_
  refine lv_iconst (v := 3) hx hb dX5_send_43 (by decide) ?_
  refine lv_iadd hx hb dX5_send_44 ?_
  refine lv_iload hx hb dX5_send_45 (lv_at hl 5 rfl) ?_
  have hin12 := h.1
  have h := h.2
  refine x_iast (a := 38) (k := 0) (n := 1400) hx hb hK hP hAd hS (in1m hC (a := 38) (by decide) (by decide)) (fun _ => rfl) hin12 dX5_send_47 (fun H locs hP hS => ?_)
  obtain ⟨σ10, e11⟩ : ∃ z, z = sI σ7 38 0 (ix ((7 * (σ.1 20 0 20)) + 3)) x4 := ⟨_, rfl⟩
  rw [← e11] at hP
  have h := h σ10 e11
  refine lv_aload_n hx hb dX5_send_48 rfl (lv_at hl 1 rfl) ?_
  refine x_get (C := RX5) (T := TX5) (N := 25) (ci := 5) (a := 20) (k := 0) (v := .ref (ad (38, 0))) hx hb hts iw_X5_send_X5 hown hK hP (in1m hC (a := 20) (by decide) (by decide)) rfl rfl 18 (by decide) (hts (.fieldLink RX5 63 "PageOwnersModel" "letters" "[I") (by decide +kernel)) (fun _ h9 => h9) rfl dX5_send_49 ?_
  refine lv_iload hx hb dX5_send_52 (lv_at hl 0 rfl) ?_
  refine lv_iconst (v := 4) hx hb dX5_send_54 (by decide) ?_
  refine lv_iadd hx hb dX5_send_55 ?_
  refine lv_iload hx hb dX5_send_56 (lv_at hl 6 rfl) ?_
  have hin15 := h.1
  have h := h.2
  refine x_iast (a := 38) (k := 0) (n := 1400) hx hb hK hP hAd hS (in1m hC (a := 38) (by decide) (by decide)) (fun _ => rfl) hin15 dX5_send_58 (fun H locs hP hS => ?_)
  obtain ⟨σ13, e14⟩ : ∃ z, z = sI σ10 38 0 (ix ((7 * (σ.1 20 0 20)) + 4)) x5 := ⟨_, rfl⟩
  rw [← e14] at hP
  have h := h σ13 e14
  refine lv_aload_n hx hb dX5_send_59 rfl (lv_at hl 1 rfl) ?_
  refine x_get (C := RX5) (T := TX5) (N := 25) (ci := 5) (a := 20) (k := 0) (v := .ref (ad (38, 0))) hx hb hts iw_X5_send_X5 hown hK hP (in1m hC (a := 20) (by decide) (by decide)) rfl rfl 18 (by decide) (hts (.fieldLink RX5 63 "PageOwnersModel" "letters" "[I") (by decide +kernel)) (fun _ h9 => h9) rfl dX5_send_60 ?_
  refine lv_iload hx hb dX5_send_63 (lv_at hl 0 rfl) ?_
  refine lv_iconst (v := 5) hx hb dX5_send_65 (by decide) ?_
  refine lv_iadd hx hb dX5_send_66 ?_
  refine lv_iload hx hb dX5_send_67 (lv_at hl 7 rfl) ?_
  have hin18 := h.1
  have h := h.2
  refine x_iast (a := 38) (k := 0) (n := 1400) hx hb hK hP hAd hS (in1m hC (a := 38) (by decide) (by decide)) (fun _ => rfl) hin18 dX5_send_69 (fun H locs hP hS => ?_)
  obtain ⟨σ16, e17⟩ : ∃ z, z = sI σ13 38 0 (ix ((7 * (σ.1 20 0 20)) + 5)) x6 := ⟨_, rfl⟩
  rw [← e17] at hP
  have h := h σ16 e17
  refine lv_iconst (v := 0) hx hb dX5_send_70 (by decide) ?_
  refine lv_istore (lv' := [(8, .int 0), (7, .int (7 * (σ.1 20 0 20))), (0, .ref (ad (20, 0))), (1, .int x1), (2, .int x2), (3, .int x3), (4, .int x4), (5, .int x5), (6, .int x6)]) hx hb dX5_send_71 hl (by decide) rfl (fun ls hl => ?_)
  obtain ⟨n43, h⟩ := h
  exact L73 n43 σ16 (7 * (σ.1 20 0 20)) 0 _ _ _ h hP hS (lv_sub hl [2, 3, 4, 5, 6, 7, 8, 1, 0] rfl)
theorem iw_X5_drop_X5 : ∀ w ∈ wsX50, w ∈ wsX5_drop := fun _ h => List.mem_cons_of_mem _ (List.mem_append_right _ h)
def lp_X5_drop_51 (x1 : Int32) (Q : Sg → Prop) : Nat → Sg → Int32 → Prop
  | 0, _, _ => False
  | n + 1, σ, y2 => (((4 * (σ.1 20 0 20)) ≤ y2 → Q σ) ∧ (¬ ((4 * (σ.1 20 0 20)) ≤ y2) → (vp_in (y2 + 4) 800 ∧ (vp_in y2 800 ∧ (∀ σ6, σ6 = sL σ 39 0 (ix y2) (σ.2.1 39 0 (ix (y2 + 4))) → lp_X5_drop_51 x1 Q n σ6 (y2 + 1))))))
def lp_X5_drop_15 (x1 : Int32) (Q : Sg → Prop) : Nat → Sg → Int32 → Prop
  | 0, _, _ => False
  | n + 1, σ, y2 => (((7 * (σ.1 20 0 20)) ≤ y2 → (∃ n9, lp_X5_drop_51 x1 Q n9 σ (4 * x1))) ∧ (¬ ((7 * (σ.1 20 0 20)) ≤ y2) → (vp_in (y2 + 7) 1400 ∧ (vp_in y2 1400 ∧ (∀ σ11, σ11 = sI σ 38 0 (ix y2) (σ.1 38 0 (ix (y2 + 7))) → lp_X5_drop_15 x1 Q n σ11 (y2 + 1))))))
def wp_X5_drop (σ : Sg) (x1 : Int32) (Q : Sg → Prop) : Prop := (∀ σ1, σ1 = sI σ 20 0 20 ((σ.1 20 0 20) - 1) → (∃ n14, lp_X5_drop_15 x1 Q n14 σ1 (7 * x1)))
abbrev rm_X5_drop : Room := { frames := 0, cells := 0, slots := 0, locals := 0 }
set_option maxHeartbeats 4000000 in
set_option maxRecDepth 100000 in
theorem c_X5_drop (l : Launch) {D : va_G} {P : List (Nat × Nat)} {ad : Nat × Nat → Nat} {cy : Nat → ClassId} (hAd : AdOk P ad) (hC : InM P) (σ : Sg) (x1 : Int32) (Q : Sg → Prop) (h : wp_X5_drop σ x1 Q) : Met l yX5_drop wsX5_drop rm_X5_drop (xPc D P ad cy σ [.ref (ad (20, 0)), .int x1]) (va_Qv Q (xB D P ad cy) (Aof P ad)) 0 0 (Aof P ad) := by
  refine Met.ofW (cc := cX5_drop) (maxL := 3) (ret := none) (by decide +kernel) rfl ?_
  intro p e s m args below meth c s₁ B hml hv
  obtain ⟨rfl, hP, hK⟩ := hv
  have hx := B.exec
  have hb := B.bytes
  have hr := B.returns
  have hts := atoms_spec (ws := wsX5_drop) B.pre
  have hown : s.vm.findClass RX5 = some m.cls := findClass_of_methodNamed B.named
  have hlocks := B.notSynchronized
  have hS : va_S (Aof P ad) s.heap s.heap [] := va_S.rf
  have hl := lv_entry ([.ref (ad (20, 0)), .int x1] : List Value) (n := 3) (Nat.le_of_ble_eq_true rfl)
  rw [lg_entry_eq]
  generalize (lg_sl ([.ref (ad (20, 0)), .int x1] : List Value) ++ List.replicate (3 - (lg_sl ([.ref (ad (20, 0)), .int x1] : List Value)).length) Slot.unset).toArray = ls at hl ⊢
  have hl : lv_has ls 3 [(0, .ref (ad (20, 0))), (1, .int x1)] := hl
  have L51 : ∀ (n : Nat) (σ : Sg) (y2 : Int32) (H : Heap) (locs : List Loc) (ls : Array Slot), lp_X5_drop_51 x1 Q n σ y2 → Wo D P ad cy σ H → va_S (Aof P ad) s.heap H locs → lv_has ls 3 [(0, .ref (ad (20, 0))), (1, .int x1), (2, .int y2)] → W p l e (headSpec wsX5_drop rm_X5_drop).room s m ([.ref (ad (20, 0)), .int x1] : List Value).toArray below meth c H locs 0 0 (MQ below (va_Qv Q (xB D P ad cy) (Aof P ad)) ([.ref (ad (20, 0)), .int x1] : List Value).toArray s 0 0 (Aof P ad)) (F0 m 51 ls []) := by
    intro n
    induction n with
    | zero =>
      intro σ y2 H locs ls h
      exact h.elim
    | succ n ih =>
      intro σ y2 H locs ls h hP hS hl
      rw [lp_X5_drop_51] at h
      refine lv_iload_n hx hb dX5_drop_51 rfl (lv_at hl 2 rfl) ?_
      refine lv_iconst (v := 4) hx hb dX5_drop_52 (by decide) ?_
      refine lv_aload_n hx hb dX5_drop_53 rfl (lv_at hl 0 rfl) ?_
      refine x_get (C := RX5) (T := TX5) (N := 25) (ci := 5) (a := 20) (k := 0) (v := .int (σ.1 20 0 20)) hx hb hts iw_X5_drop_X5 hown hK hP (in1m hC (a := 20) (by decide) (by decide)) rfl rfl 20 (by decide) (hts (.fieldLink RX5 89 "PageOwnersModel" "flying" "I") (by decide +kernel)) (fun _ h9 => h9) rfl dX5_drop_54 ?_
      refine lv_imul hx hb dX5_drop_57 ?_
      refine lv_icmp_ge (tgt := 81) hx hb dX5_drop_58 (by decide) (fun c4 => ?_) (fun c4 => ?_)
      · have h := h.1 c4
        exact W.vret hx hb hr (fun t ht hW => ⟨⟨σ, rfl, h, by rw [ht]; exact hP, va_K.moved hW.alike hK⟩, hS.F ht⟩) hS.2.2 dX5_drop_81
      · have h := h.2 c4
        refine lv_aload_n hx hb dX5_drop_61 rfl (lv_at hl 0 rfl) ?_
        refine x_get (C := RX5) (T := TX5) (N := 25) (ci := 5) (a := 20) (k := 0) (v := .ref (ad (39, 0))) hx hb hts iw_X5_drop_X5 hown hK hP (in1m hC (a := 20) (by decide) (by decide)) rfl rfl 19 (by decide) (hts (.fieldLink RX5 66 "PageOwnersModel" "letterWords" "[J") (by decide +kernel)) (fun _ h9 => h9) rfl dX5_drop_62 ?_
        refine lv_iload_n hx hb dX5_drop_65 rfl (lv_at hl 2 rfl) ?_
        refine lv_aload_n hx hb dX5_drop_66 rfl (lv_at hl 0 rfl) ?_
        refine x_get (C := RX5) (T := TX5) (N := 25) (ci := 5) (a := 20) (k := 0) (v := .ref (ad (39, 0))) hx hb hts iw_X5_drop_X5 hown hK hP (in1m hC (a := 20) (by decide) (by decide)) rfl rfl 19 (by decide) (hts (.fieldLink RX5 66 "PageOwnersModel" "letterWords" "[J") (by decide +kernel)) (fun _ h9 => h9) rfl dX5_drop_67 ?_
        refine lv_iload_n hx hb dX5_drop_70 rfl (lv_at hl 2 rfl) ?_
        refine lv_iconst (v := 4) hx hb dX5_drop_71 (by decide) ?_
        refine lv_iadd hx hb dX5_drop_72 ?_
        have hin5 := h.1
        have h := h.2
        refine x_lald (a := 39) (k := 0) (n := 800) hx hb hK hP (in1m hC (a := 39) (by decide) (by decide)) (fun _ => rfl) hin5 dX5_drop_73 ?_
        have hin8 := h.1
        have h := h.2
        refine x_last (a := 39) (k := 0) (n := 800) hx hb hK hP hAd hS (in1m hC (a := 39) (by decide) (by decide)) (fun _ => rfl) hin8 dX5_drop_74 (fun H locs hP hS => ?_)
        obtain ⟨σ6, e7⟩ : ∃ z, z = sL σ 39 0 (ix y2) (σ.2.1 39 0 (ix (y2 + 4))) := ⟨_, rfl⟩
        rw [← e7] at hP
        have h := h σ6 e7
        refine lv_iinc (v := (y2 + 1)) (lv' := [(2, .int (y2 + 1)), (0, .ref (ad (20, 0))), (1, .int x1)]) hx hb dX5_drop_75 hl (k := 2) rfl rfl (by decide) rfl (fun ls hl => ?_)
        refine lv_goto (tgt := 51) hx hb dX5_drop_78 (by decide) ?_
        exact ih σ6 (y2 + 1) _ _ _ h hP hS (lv_sub hl [1, 2, 0] rfl)
  have L15 : ∀ (n : Nat) (σ : Sg) (y2 : Int32) (H : Heap) (locs : List Loc) (ls : Array Slot), lp_X5_drop_15 x1 Q n σ y2 → Wo D P ad cy σ H → va_S (Aof P ad) s.heap H locs → lv_has ls 3 [(0, .ref (ad (20, 0))), (1, .int x1), (2, .int y2)] → W p l e (headSpec wsX5_drop rm_X5_drop).room s m ([.ref (ad (20, 0)), .int x1] : List Value).toArray below meth c H locs 0 0 (MQ below (va_Qv Q (xB D P ad cy) (Aof P ad)) ([.ref (ad (20, 0)), .int x1] : List Value).toArray s 0 0 (Aof P ad)) (F0 m 15 ls []) := by
    intro n
    induction n with
    | zero =>
      intro σ y2 H locs ls h
      exact h.elim
    | succ n ih =>
      intro σ y2 H locs ls h hP hS hl
      rw [lp_X5_drop_15] at h
      refine lv_iload_n hx hb dX5_drop_15 rfl (lv_at hl 2 rfl) ?_
      refine lv_bipush (v := 7) hx hb dX5_drop_16 (by decide) ?_
      refine lv_aload_n hx hb dX5_drop_18 rfl (lv_at hl 0 rfl) ?_
      refine x_get (C := RX5) (T := TX5) (N := 25) (ci := 5) (a := 20) (k := 0) (v := .int (σ.1 20 0 20)) hx hb hts iw_X5_drop_X5 hown hK hP (in1m hC (a := 20) (by decide) (by decide)) rfl rfl 20 (by decide) (hts (.fieldLink RX5 89 "PageOwnersModel" "flying" "I") (by decide +kernel)) (fun _ h9 => h9) rfl dX5_drop_19 ?_
      refine lv_imul hx hb dX5_drop_22 ?_
      refine lv_icmp_ge (tgt := 47) hx hb dX5_drop_23 (by decide) (fun c3 => ?_) (fun c3 => ?_)
      · have h := h.1 c3
        refine lv_iconst (v := 4) hx hb dX5_drop_47 (by decide) ?_
        refine lv_iload_n hx hb dX5_drop_48 rfl (lv_at hl 1 rfl) ?_
        refine lv_imul hx hb dX5_drop_49 ?_
        refine lv_istore_n (lv' := [(2, .int (4 * x1)), (0, .ref (ad (20, 0))), (1, .int x1)]) hx hb dX5_drop_50 rfl hl (by decide) rfl (fun ls hl => ?_)
        obtain ⟨n9, h⟩ := h
        exact L51 n9 σ (4 * x1) _ _ _ h hP hS (lv_sub hl [1, 2, 0] rfl)
      · have h := h.2 c3
        refine lv_aload_n hx hb dX5_drop_26 rfl (lv_at hl 0 rfl) ?_
        refine x_get (C := RX5) (T := TX5) (N := 25) (ci := 5) (a := 20) (k := 0) (v := .ref (ad (38, 0))) hx hb hts iw_X5_drop_X5 hown hK hP (in1m hC (a := 20) (by decide) (by decide)) rfl rfl 18 (by decide) (hts (.fieldLink RX5 63 "PageOwnersModel" "letters" "[I") (by decide +kernel)) (fun _ h9 => h9) rfl dX5_drop_27 ?_
        refine lv_iload_n hx hb dX5_drop_30 rfl (lv_at hl 2 rfl) ?_
        refine lv_aload_n hx hb dX5_drop_31 rfl (lv_at hl 0 rfl) ?_
        refine x_get (C := RX5) (T := TX5) (N := 25) (ci := 5) (a := 20) (k := 0) (v := .ref (ad (38, 0))) hx hb hts iw_X5_drop_X5 hown hK hP (in1m hC (a := 20) (by decide) (by decide)) rfl rfl 18 (by decide) (hts (.fieldLink RX5 63 "PageOwnersModel" "letters" "[I") (by decide +kernel)) (fun _ h9 => h9) rfl dX5_drop_32 ?_
        refine lv_iload_n hx hb dX5_drop_35 rfl (lv_at hl 2 rfl) ?_
        refine lv_bipush (v := 7) hx hb dX5_drop_36 (by decide) ?_
        refine lv_iadd hx hb dX5_drop_38 ?_
        have hin10 := h.1
        have h := h.2
        refine x_iald (a := 38) (k := 0) (n := 1400) hx hb hK hP (in1m hC (a := 38) (by decide) (by decide)) (fun _ => rfl) hin10 dX5_drop_39 ?_
        have hin13 := h.1
        have h := h.2
        refine x_iast (a := 38) (k := 0) (n := 1400) hx hb hK hP hAd hS (in1m hC (a := 38) (by decide) (by decide)) (fun _ => rfl) hin13 dX5_drop_40 (fun H locs hP hS => ?_)
        obtain ⟨σ11, e12⟩ : ∃ z, z = sI σ 38 0 (ix y2) (σ.1 38 0 (ix (y2 + 7))) := ⟨_, rfl⟩
        rw [← e12] at hP
        have h := h σ11 e12
        refine lv_iinc (v := (y2 + 1)) (lv' := [(2, .int (y2 + 1)), (0, .ref (ad (20, 0))), (1, .int x1)]) hx hb dX5_drop_41 hl (k := 2) rfl rfl (by decide) rfl (fun ls hl => ?_)
        refine lv_goto (tgt := 15) hx hb dX5_drop_44 (by decide) ?_
        exact ih σ11 (y2 + 1) _ _ _ h hP hS (lv_sub hl [1, 2, 0] rfl)
  unfold wp_X5_drop at h
  refine lv_aload_n hx hb dX5_drop_0 rfl (lv_at hl 0 rfl) ?_
  refine lv_dup hx hb dX5_drop_1 rfl ?_
  refine x_get (C := RX5) (T := TX5) (N := 25) (ci := 5) (a := 20) (k := 0) (v := .int (σ.1 20 0 20)) hx hb hts iw_X5_drop_X5 hown hK hP (in1m hC (a := 20) (by decide) (by decide)) rfl rfl 20 (by decide) (hts (.fieldLink RX5 89 "PageOwnersModel" "flying" "I") (by decide +kernel)) (fun _ h9 => h9) rfl dX5_drop_2 ?_
  refine lv_iconst (v := 1) hx hb dX5_drop_5 (by decide) ?_
  refine lv_isub hx hb dX5_drop_6 ?_
  refine x_puti (C := RX5) (T := TX5) (N := 25) (ci := 5) (a := 20) (k := 0) (v := ((σ.1 20 0 20) - 1)) (ty := .int) hx hb hts iw_X5_drop_X5 tyX5 tyX5_ok nmX5 hown hK hP hAd hS (in1m hC (a := 20) (by decide) (by decide)) rfl rfl 20 (by decide) (hts (.fieldLink RX5 89 "PageOwnersModel" "flying" "I") (by decide +kernel)) (fun _ h9 => h9) rfl (by decide +kernel) rfl rfl (Nat.le_of_ble_eq_true rfl) rfl dX5_drop_7 (fun H locs hP hS => ?_)
  obtain ⟨σ1, e2⟩ : ∃ z, z = sI σ 20 0 20 ((σ.1 20 0 20) - 1) := ⟨_, rfl⟩
  rw [← e2] at hP
  have h := h σ1 e2
  refine lv_bipush (v := 7) hx hb dX5_drop_10 (by decide) ?_
  refine lv_iload_n hx hb dX5_drop_12 rfl (lv_at hl 1 rfl) ?_
  refine lv_imul hx hb dX5_drop_13 ?_
  refine lv_istore_n (lv' := [(2, .int (7 * x1)), (0, .ref (ad (20, 0))), (1, .int x1)]) hx hb dX5_drop_14 rfl hl (by decide) rfl (fun ls hl => ?_)
  obtain ⟨n14, h⟩ := h
  exact L15 n14 σ1 (7 * x1) _ _ _ h hP hS (lv_sub hl [1, 2, 0] rfl)
theorem iw_X5_finish_X5 : ∀ w ∈ wsX50, w ∈ wsX5_finish := fun _ h => List.mem_cons_of_mem _ (List.mem_append_right _ h)
def wp_X5_finish (σ : Sg) (x1 : Int32) (Q : Sg → Prop) : Prop := (vp_in x1 6 ∧ (wp_X5_place σ x1 (σ.1 29 0 (ix x1)) (fun σ2 r3 => (vp_in x1 6 ∧ (vp_in x1 6 ∧ (((σ2.1 31 0 (ix x1)) = 0 → (vp_in ((4 * r3) + (σ2.1 30 0 (ix x1))) 192 ∧ (vp_in x1 6 ∧ (∀ σ9, σ9 = sL σ2 37 0 (ix x1) (σ2.2.1 25 0 (ix ((4 * r3) + (σ2.1 30 0 (ix x1))))) → (vp_in x1 6 ∧ (∀ σ12, σ12 = sI σ9 28 0 (ix x1) 0 → (vp_in x1 6 ∧ (vp_in x1 6 ∧ (∀ σ16, σ16 = sI σ12 36 0 (ix x1) ((σ12.1 36 0 (ix x1)) + 1) → (∀ σ19, σ19 = sI σ16 41 0 (ix 6) ((σ16.1 41 0 (ix 6)) + 1) → Q σ19)))))))))) ∧ (¬ ((σ2.1 31 0 (ix x1)) = 0) → (vp_in x1 6 ∧ (vp_in ((4 * r3) + (σ2.1 30 0 (ix x1))) 192 ∧ (∀ σ22, σ22 = sL σ2 25 0 (ix ((4 * r3) + (σ2.1 30 0 (ix x1)))) (σ2.2.1 32 0 (ix x1)) → (vp_in ((4 * r3) + (σ2.1 30 0 (ix x1))) 192 ∧ (vp_in x1 6 ∧ (∀ σ26, σ26 = sL σ22 37 0 (ix x1) (σ22.2.1 25 0 (ix ((4 * r3) + (σ2.1 30 0 (ix x1))))) → (vp_in x1 6 ∧ (∀ σ29, σ29 = sI σ26 28 0 (ix x1) 0 → (vp_in x1 6 ∧ (vp_in x1 6 ∧ (∀ σ33, σ33 = sI σ29 36 0 (ix x1) ((σ29.1 36 0 (ix x1)) + 1) → (∀ σ36, σ36 = sI σ33 41 0 (ix 6) ((σ33.1 41 0 (ix 6)) + 1) → Q σ36)))))))))))))))))))
abbrev rm_X5_finish : Room := { frames := 1, cells := 0, slots := 0, locals := 21 }
set_option maxHeartbeats 4000000 in
set_option maxRecDepth 100000 in
theorem c_X5_finish (l : Launch) {D : va_G} {P : List (Nat × Nat)} {ad : Nat × Nat → Nat} {cy : Nat → ClassId} (hAd : AdOk P ad) (hC : InM P) (σ : Sg) (x1 : Int32) (Q : Sg → Prop) (h : wp_X5_finish σ x1 Q) : Met l yX5_finish wsX5_finish rm_X5_finish (xPc D P ad cy σ [.ref (ad (20, 0)), .int x1]) (va_Qv Q (xB D P ad cy) (Aof P ad)) 0 0 (Aof P ad) := by
  refine Met.ofW (cc := cX5_finish) (maxL := 3) (ret := none) (by decide +kernel) rfl ?_
  intro p e s m args below meth c s₁ B hml hv
  obtain ⟨rfl, hP, hK⟩ := hv
  have hx := B.exec
  have hb := B.bytes
  have hr := B.returns
  have hts := atoms_spec (ws := wsX5_finish) B.pre
  have hown : s.vm.findClass RX5 = some m.cls := findClass_of_methodNamed B.named
  have hlocks := B.notSynchronized
  have hS : va_S (Aof P ad) s.heap s.heap [] := va_S.rf
  have hl := lv_entry ([.ref (ad (20, 0)), .int x1] : List Value) (n := 3) (Nat.le_of_ble_eq_true rfl)
  rw [lg_entry_eq]
  generalize (lg_sl ([.ref (ad (20, 0)), .int x1] : List Value) ++ List.replicate (3 - (lg_sl ([.ref (ad (20, 0)), .int x1] : List Value)).length) Slot.unset).toArray = ls at hl ⊢
  have hl : lv_has ls 3 [(0, .ref (ad (20, 0))), (1, .int x1)] := hl
  unfold wp_X5_finish at h
  refine lv_iconst (v := 4) hx hb dX5_finish_0 (by decide) ?_
  refine lv_iload_n hx hb dX5_finish_1 rfl (lv_at hl 1 rfl) ?_
  refine lv_aload_n hx hb dX5_finish_2 rfl (lv_at hl 0 rfl) ?_
  refine x_get (C := RX5) (T := TX5) (N := 25) (ci := 5) (a := 20) (k := 0) (v := .ref (ad (29, 0))) hx hb hts iw_X5_finish_X5 hown hK hP (in1m hC (a := 20) (by decide) (by decide)) rfl rfl 9 (by decide) (hts (.fieldLink RX5 36 "PageOwnersModel" "page" "[I") (by decide +kernel)) (fun _ h9 => h9) rfl dX5_finish_3 ?_
  refine lv_iload_n hx hb dX5_finish_6 rfl (lv_at hl 1 rfl) ?_
  have hin1 := h.1
  have h := h.2
  refine x_iald (a := 29) (k := 0) (n := 6) hx hb hK hP (in1m hC (a := 29) (by decide) (by decide)) (fun _ => rfl) hin1 dX5_finish_7 ?_
  refine x_cSi (As := [.int x1, .int (σ.1 29 0 (ix x1))]) (rest := [.int 4]) ⟨hx, hb, hml, hown, hts⟩ hK hP hS (c_X5_place l hAd hC σ x1 (σ.1 29 0 (ix x1)) _ h) (va_cwS 2 hts gX5_finish_X5_place rfl rfl rfl (by decide +kernel) ⟨Nat.le_of_ble_eq_true rfl, Nat.le_of_ble_eq_true rfl⟩) rfl hl.1 rfl (Nat.le_of_ble_eq_true rfl) dX5_finish_8 ⟨Nat.zero_le _, Nat.zero_le _⟩ (fun r3 σ2 H locs h hP hS => ?_)
  refine lv_imul hx hb dX5_finish_11 ?_
  refine lv_aload_n hx hb dX5_finish_12 rfl (lv_at hl 0 rfl) ?_
  refine x_get (C := RX5) (T := TX5) (N := 25) (ci := 5) (a := 20) (k := 0) (v := .ref (ad (30, 0))) hx hb hts iw_X5_finish_X5 hown hK hP (in1m hC (a := 20) (by decide) (by decide)) rfl rfl 10 (by decide) (hts (.fieldLink RX5 39 "PageOwnersModel" "word" "[I") (by decide +kernel)) (fun _ h9 => h9) rfl dX5_finish_13 ?_
  refine lv_iload_n hx hb dX5_finish_16 rfl (lv_at hl 1 rfl) ?_
  have hin5 := h.1
  have h := h.2
  refine x_iald (a := 30) (k := 0) (n := 6) hx hb hK hP (in1m hC (a := 30) (by decide) (by decide)) (fun _ => rfl) hin5 dX5_finish_17 ?_
  refine lv_iadd hx hb dX5_finish_18 ?_
  refine lv_istore_n (lv' := [(2, .int ((4 * r3) + (σ2.1 30 0 (ix x1)))), (0, .ref (ad (20, 0))), (1, .int x1)]) hx hb dX5_finish_19 rfl hl (by decide) rfl (fun ls hl => ?_)
  refine lv_aload_n hx hb dX5_finish_20 rfl (lv_at hl 1 rfl) ?_
  refine x_get (C := RX5) (T := TX5) (N := 25) (ci := 5) (a := 20) (k := 0) (v := .ref (ad (31, 0))) hx hb hts iw_X5_finish_X5 hown hK hP (in1m hC (a := 20) (by decide) (by decide)) rfl rfl 11 (by decide) (hts (.fieldLink RX5 42 "PageOwnersModel" "isWrite" "[Z") (by decide +kernel)) (fun _ h9 => h9) rfl dX5_finish_21 ?_
  refine lv_iload_n hx hb dX5_finish_24 rfl (lv_at hl 2 rfl) ?_
  have hin6 := h.1
  have h := h.2
  refine x_zald (a := 31) (k := 0) (n := 6) hx hb hK hP (in1m hC (a := 31) (by decide) (by decide)) (fun _ => rfl) hin6 dX5_finish_25 ?_
  refine lv_if_eq (tgt := 41) hx hb dX5_finish_26 (by decide) (fun c7 => ?_) (fun c7 => ?_)
  · have h := h.1 c7
    refine lv_aload_n hx hb dX5_finish_41 rfl (lv_at hl 1 rfl) ?_
    refine x_get (C := RX5) (T := TX5) (N := 25) (ci := 5) (a := 20) (k := 0) (v := .ref (ad (37, 0))) hx hb hts iw_X5_finish_X5 hown hK hP (in1m hC (a := 20) (by decide) (by decide)) rfl rfl 17 (by decide) (hts (.fieldLink RX5 60 "PageOwnersModel" "result" "[J") (by decide +kernel)) (fun _ h9 => h9) rfl dX5_finish_42 ?_
    refine lv_iload_n hx hb dX5_finish_45 rfl (lv_at hl 2 rfl) ?_
    refine lv_aload_n hx hb dX5_finish_46 rfl (lv_at hl 1 rfl) ?_
    refine x_get (C := RX5) (T := TX5) (N := 25) (ci := 5) (a := 20) (k := 0) (v := .ref (ad (25, 0))) hx hb hts iw_X5_finish_X5 hown hK hP (in1m hC (a := 20) (by decide) (by decide)) rfl rfl 5 (by decide) (hts (.fieldLink RX5 23 "PageOwnersModel" "words" "[J") (by decide +kernel)) (fun _ h9 => h9) rfl dX5_finish_47 ?_
    refine lv_iload_n hx hb dX5_finish_50 rfl (lv_at hl 0 rfl) ?_
    have hin8 := h.1
    have h := h.2
    refine x_lald (a := 25) (k := 0) (n := 192) hx hb hK hP (in1m hC (a := 25) (by decide) (by decide)) (fun _ => rfl) hin8 dX5_finish_51 ?_
    have hin11 := h.1
    have h := h.2
    refine x_last (a := 37) (k := 0) (n := 6) hx hb hK hP hAd hS (in1m hC (a := 37) (by decide) (by decide)) (fun _ => rfl) hin11 dX5_finish_52 (fun H locs hP hS => ?_)
    obtain ⟨σ9, e10⟩ : ∃ z, z = sL σ2 37 0 (ix x1) (σ2.2.1 25 0 (ix ((4 * r3) + (σ2.1 30 0 (ix x1))))) := ⟨_, rfl⟩
    rw [← e10] at hP
    have h := h σ9 e10
    refine lv_aload_n hx hb dX5_finish_53 rfl (lv_at hl 1 rfl) ?_
    refine x_get (C := RX5) (T := TX5) (N := 25) (ci := 5) (a := 20) (k := 0) (v := .ref (ad (28, 0))) hx hb hts iw_X5_finish_X5 hown hK hP (in1m hC (a := 20) (by decide) (by decide)) rfl rfl 8 (by decide) (hts (.fieldLink RX5 33 "PageOwnersModel" "waits" "[I") (by decide +kernel)) (fun _ h9 => h9) rfl dX5_finish_54 ?_
    refine lv_iload_n hx hb dX5_finish_57 rfl (lv_at hl 2 rfl) ?_
    refine lv_iconst (v := 0) hx hb dX5_finish_58 (by decide) ?_
    have hin14 := h.1
    have h := h.2
    refine x_iast (a := 28) (k := 0) (n := 6) hx hb hK hP hAd hS (in1m hC (a := 28) (by decide) (by decide)) (fun _ => rfl) hin14 dX5_finish_59 (fun H locs hP hS => ?_)
    obtain ⟨σ12, e13⟩ : ∃ z, z = sI σ9 28 0 (ix x1) 0 := ⟨_, rfl⟩
    rw [← e13] at hP
    have h := h σ12 e13
    refine lv_aload_n hx hb dX5_finish_60 rfl (lv_at hl 1 rfl) ?_
    refine x_get (C := RX5) (T := TX5) (N := 25) (ci := 5) (a := 20) (k := 0) (v := .ref (ad (36, 0))) hx hb hts iw_X5_finish_X5 hown hK hP (in1m hC (a := 20) (by decide) (by decide)) rfl rfl 16 (by decide) (hts (.fieldLink RX5 57 "PageOwnersModel" "done" "[I") (by decide +kernel)) (fun _ h9 => h9) rfl dX5_finish_61 ?_
    refine lv_iload_n hx hb dX5_finish_64 rfl (lv_at hl 2 rfl) ?_
    refine lv_dup2_11 hx hb dX5_finish_65 rfl rfl ?_
    have hin15 := h.1
    have h := h.2
    refine x_iald (a := 36) (k := 0) (n := 6) hx hb hK hP (in1m hC (a := 36) (by decide) (by decide)) (fun _ => rfl) hin15 dX5_finish_66 ?_
    refine lv_iconst (v := 1) hx hb dX5_finish_67 (by decide) ?_
    refine lv_iadd hx hb dX5_finish_68 ?_
    have hin18 := h.1
    have h := h.2
    refine x_iast (a := 36) (k := 0) (n := 6) hx hb hK hP hAd hS (in1m hC (a := 36) (by decide) (by decide)) (fun _ => rfl) hin18 dX5_finish_69 (fun H locs hP hS => ?_)
    obtain ⟨σ16, e17⟩ : ∃ z, z = sI σ12 36 0 (ix x1) ((σ12.1 36 0 (ix x1)) + 1) := ⟨_, rfl⟩
    rw [← e17] at hP
    have h := h σ16 e17
    refine lv_aload_n hx hb dX5_finish_70 rfl (lv_at hl 1 rfl) ?_
    refine x_get (C := RX5) (T := TX5) (N := 25) (ci := 5) (a := 20) (k := 0) (v := .ref (ad (41, 0))) hx hb hts iw_X5_finish_X5 hown hK hP (in1m hC (a := 20) (by decide) (by decide)) rfl rfl 21 (by decide) (hts (.fieldLink RX5 69 "PageOwnersModel" "counts" "[I") (by decide +kernel)) (fun _ h9 => h9) rfl dX5_finish_71 ?_
    refine lv_bipush (v := 6) hx hb dX5_finish_74 (by decide) ?_
    refine lv_dup2_11 hx hb dX5_finish_76 rfl rfl ?_
    refine x_iald (a := 41) (k := 0) (n := 8) hx hb hK hP (in1m hC (a := 41) (by decide) (by decide)) (fun _ => rfl) (by unfold vp_in; decide) dX5_finish_77 ?_
    refine lv_iconst (v := 1) hx hb dX5_finish_78 (by decide) ?_
    refine lv_iadd hx hb dX5_finish_79 ?_
    refine x_iast (a := 41) (k := 0) (n := 8) hx hb hK hP hAd hS (in1m hC (a := 41) (by decide) (by decide)) (fun _ => rfl) (by unfold vp_in; decide) dX5_finish_80 (fun H locs hP hS => ?_)
    obtain ⟨σ19, e20⟩ : ∃ z, z = sI σ16 41 0 (ix 6) ((σ16.1 41 0 (ix 6)) + 1) := ⟨_, rfl⟩
    rw [← e20] at hP
    have h := h σ19 e20
    exact W.vret hx hb hr (fun t ht hW => ⟨⟨σ19, rfl, h, by rw [ht]; exact hP, va_K.moved hW.alike hK⟩, hS.F ht⟩) hS.2.2 dX5_finish_81
  · have h := h.2 c7
    refine lv_aload_n hx hb dX5_finish_29 rfl (lv_at hl 1 rfl) ?_
    refine x_get (C := RX5) (T := TX5) (N := 25) (ci := 5) (a := 20) (k := 0) (v := .ref (ad (25, 0))) hx hb hts iw_X5_finish_X5 hown hK hP (in1m hC (a := 20) (by decide) (by decide)) rfl rfl 5 (by decide) (hts (.fieldLink RX5 23 "PageOwnersModel" "words" "[J") (by decide +kernel)) (fun _ h9 => h9) rfl dX5_finish_30 ?_
    refine lv_iload_n hx hb dX5_finish_33 rfl (lv_at hl 0 rfl) ?_
    refine lv_aload_n hx hb dX5_finish_34 rfl (lv_at hl 1 rfl) ?_
    refine x_get (C := RX5) (T := TX5) (N := 25) (ci := 5) (a := 20) (k := 0) (v := .ref (ad (32, 0))) hx hb hts iw_X5_finish_X5 hown hK hP (in1m hC (a := 20) (by decide) (by decide)) rfl rfl 12 (by decide) (hts (.fieldLink RX5 45 "PageOwnersModel" "value" "[J") (by decide +kernel)) (fun _ h9 => h9) rfl dX5_finish_35 ?_
    refine lv_iload_n hx hb dX5_finish_38 rfl (lv_at hl 2 rfl) ?_
    have hin21 := h.1
    have h := h.2
    refine x_lald (a := 32) (k := 0) (n := 6) hx hb hK hP (in1m hC (a := 32) (by decide) (by decide)) (fun _ => rfl) hin21 dX5_finish_39 ?_
    have hin24 := h.1
    have h := h.2
    refine x_last (a := 25) (k := 0) (n := 192) hx hb hK hP hAd hS (in1m hC (a := 25) (by decide) (by decide)) (fun _ => rfl) hin24 dX5_finish_40 (fun H locs hP hS => ?_)
    obtain ⟨σ22, e23⟩ : ∃ z, z = sL σ2 25 0 (ix ((4 * r3) + (σ2.1 30 0 (ix x1)))) (σ2.2.1 32 0 (ix x1)) := ⟨_, rfl⟩
    rw [← e23] at hP
    have h := h σ22 e23
    refine lv_aload_n hx hb dX5_finish_41 rfl (lv_at hl 1 rfl) ?_
    refine x_get (C := RX5) (T := TX5) (N := 25) (ci := 5) (a := 20) (k := 0) (v := .ref (ad (37, 0))) hx hb hts iw_X5_finish_X5 hown hK hP (in1m hC (a := 20) (by decide) (by decide)) rfl rfl 17 (by decide) (hts (.fieldLink RX5 60 "PageOwnersModel" "result" "[J") (by decide +kernel)) (fun _ h9 => h9) rfl dX5_finish_42 ?_
    refine lv_iload_n hx hb dX5_finish_45 rfl (lv_at hl 2 rfl) ?_
    refine lv_aload_n hx hb dX5_finish_46 rfl (lv_at hl 1 rfl) ?_
    refine x_get (C := RX5) (T := TX5) (N := 25) (ci := 5) (a := 20) (k := 0) (v := .ref (ad (25, 0))) hx hb hts iw_X5_finish_X5 hown hK hP (in1m hC (a := 20) (by decide) (by decide)) rfl rfl 5 (by decide) (hts (.fieldLink RX5 23 "PageOwnersModel" "words" "[J") (by decide +kernel)) (fun _ h9 => h9) rfl dX5_finish_47 ?_
    refine lv_iload_n hx hb dX5_finish_50 rfl (lv_at hl 0 rfl) ?_
    have hin25 := h.1
    have h := h.2
    refine x_lald (a := 25) (k := 0) (n := 192) hx hb hK hP (in1m hC (a := 25) (by decide) (by decide)) (fun _ => rfl) hin25 dX5_finish_51 ?_
    have hin28 := h.1
    have h := h.2
    refine x_last (a := 37) (k := 0) (n := 6) hx hb hK hP hAd hS (in1m hC (a := 37) (by decide) (by decide)) (fun _ => rfl) hin28 dX5_finish_52 (fun H locs hP hS => ?_)
    obtain ⟨σ26, e27⟩ : ∃ z, z = sL σ22 37 0 (ix x1) (σ22.2.1 25 0 (ix ((4 * r3) + (σ2.1 30 0 (ix x1))))) := ⟨_, rfl⟩
    rw [← e27] at hP
    have h := h σ26 e27
    refine lv_aload_n hx hb dX5_finish_53 rfl (lv_at hl 1 rfl) ?_
    refine x_get (C := RX5) (T := TX5) (N := 25) (ci := 5) (a := 20) (k := 0) (v := .ref (ad (28, 0))) hx hb hts iw_X5_finish_X5 hown hK hP (in1m hC (a := 20) (by decide) (by decide)) rfl rfl 8 (by decide) (hts (.fieldLink RX5 33 "PageOwnersModel" "waits" "[I") (by decide +kernel)) (fun _ h9 => h9) rfl dX5_finish_54 ?_
    refine lv_iload_n hx hb dX5_finish_57 rfl (lv_at hl 2 rfl) ?_
    refine lv_iconst (v := 0) hx hb dX5_finish_58 (by decide) ?_
    have hin31 := h.1
    have h := h.2
    refine x_iast (a := 28) (k := 0) (n := 6) hx hb hK hP hAd hS (in1m hC (a := 28) (by decide) (by decide)) (fun _ => rfl) hin31 dX5_finish_59 (fun H locs hP hS => ?_)
    obtain ⟨σ29, e30⟩ : ∃ z, z = sI σ26 28 0 (ix x1) 0 := ⟨_, rfl⟩
    rw [← e30] at hP
    have h := h σ29 e30
    refine lv_aload_n hx hb dX5_finish_60 rfl (lv_at hl 1 rfl) ?_
    refine x_get (C := RX5) (T := TX5) (N := 25) (ci := 5) (a := 20) (k := 0) (v := .ref (ad (36, 0))) hx hb hts iw_X5_finish_X5 hown hK hP (in1m hC (a := 20) (by decide) (by decide)) rfl rfl 16 (by decide) (hts (.fieldLink RX5 57 "PageOwnersModel" "done" "[I") (by decide +kernel)) (fun _ h9 => h9) rfl dX5_finish_61 ?_
    refine lv_iload_n hx hb dX5_finish_64 rfl (lv_at hl 2 rfl) ?_
    refine lv_dup2_11 hx hb dX5_finish_65 rfl rfl ?_
    have hin32 := h.1
    have h := h.2
    refine x_iald (a := 36) (k := 0) (n := 6) hx hb hK hP (in1m hC (a := 36) (by decide) (by decide)) (fun _ => rfl) hin32 dX5_finish_66 ?_
    refine lv_iconst (v := 1) hx hb dX5_finish_67 (by decide) ?_
    refine lv_iadd hx hb dX5_finish_68 ?_
    have hin35 := h.1
    have h := h.2
    refine x_iast (a := 36) (k := 0) (n := 6) hx hb hK hP hAd hS (in1m hC (a := 36) (by decide) (by decide)) (fun _ => rfl) hin35 dX5_finish_69 (fun H locs hP hS => ?_)
    obtain ⟨σ33, e34⟩ : ∃ z, z = sI σ29 36 0 (ix x1) ((σ29.1 36 0 (ix x1)) + 1) := ⟨_, rfl⟩
    rw [← e34] at hP
    have h := h σ33 e34
    refine lv_aload_n hx hb dX5_finish_70 rfl (lv_at hl 1 rfl) ?_
    refine x_get (C := RX5) (T := TX5) (N := 25) (ci := 5) (a := 20) (k := 0) (v := .ref (ad (41, 0))) hx hb hts iw_X5_finish_X5 hown hK hP (in1m hC (a := 20) (by decide) (by decide)) rfl rfl 21 (by decide) (hts (.fieldLink RX5 69 "PageOwnersModel" "counts" "[I") (by decide +kernel)) (fun _ h9 => h9) rfl dX5_finish_71 ?_
    refine lv_bipush (v := 6) hx hb dX5_finish_74 (by decide) ?_
    refine lv_dup2_11 hx hb dX5_finish_76 rfl rfl ?_
    refine x_iald (a := 41) (k := 0) (n := 8) hx hb hK hP (in1m hC (a := 41) (by decide) (by decide)) (fun _ => rfl) (by unfold vp_in; decide) dX5_finish_77 ?_
    refine lv_iconst (v := 1) hx hb dX5_finish_78 (by decide) ?_
    refine lv_iadd hx hb dX5_finish_79 ?_
    refine x_iast (a := 41) (k := 0) (n := 8) hx hb hK hP hAd hS (in1m hC (a := 41) (by decide) (by decide)) (fun _ => rfl) (by unfold vp_in; decide) dX5_finish_80 (fun H locs hP hS => ?_)
    obtain ⟨σ36, e37⟩ : ∃ z, z = sI σ33 41 0 (ix 6) ((σ33.1 41 0 (ix 6)) + 1) := ⟨_, rfl⟩
    rw [← e37] at hP
    have h := h σ36 e37
    exact W.vret hx hb hr (fun t ht hW => ⟨⟨σ36, rfl, h, by rw [ht]; exact hP, va_K.moved hW.alike hK⟩, hS.F ht⟩) hS.2.2 dX5_finish_81
theorem iw_X5_takeUp_X5 : ∀ w ∈ wsX50, w ∈ wsX5_takeUp := fun _ h => List.mem_cons_of_mem _ (List.mem_append_right _ h)
def wp_X5_takeUp (σ : Sg) (x1 : Int32) (x2 : Int32) (x3 : Int32) (x4 : Int32) (Q : Sg → Prop) : Prop := (vp_in x1 6 ∧ (∀ σ1, σ1 = sI σ 29 0 (ix x1) x2 → (vp_in x1 6 ∧ (∀ σ4, σ4 = sI σ1 30 0 (ix x1) x3 → (vp_in x1 6 ∧ ((x4 = 0 ∨ x4 = 1) ∧ (∀ σ7, σ7 = sI σ4 31 0 (ix x1) x4 → (vp_in x1 6 ∧ (∀ σ11, σ11 = sI σ7 33 0 (ix x1) 0 → (vp_in x1 6 ∧ (∀ σ14, σ14 = sI σ11 34 0 (ix x1) 0 → (vp_in x1 6 ∧ (∀ σ17, σ17 = sI σ14 35 0 (ix x1) 1 → Q σ17)))))))))))))
abbrev rm_X5_takeUp : Room := { frames := 0, cells := 0, slots := 0, locals := 0 }
set_option maxHeartbeats 4000000 in
set_option maxRecDepth 100000 in
theorem c_X5_takeUp (l : Launch) {D : va_G} {P : List (Nat × Nat)} {ad : Nat × Nat → Nat} {cy : Nat → ClassId} (hAd : AdOk P ad) (hC : InM P) (σ : Sg) (x1 : Int32) (x2 : Int32) (x3 : Int32) (x4 : Int32) (Q : Sg → Prop) (h : wp_X5_takeUp σ x1 x2 x3 x4 Q) : Met l yX5_takeUp wsX5_takeUp rm_X5_takeUp (xPc D P ad cy σ [.ref (ad (20, 0)), .int x1, .int x2, .int x3, .int x4]) (va_Qv Q (xB D P ad cy) (Aof P ad)) 0 0 (Aof P ad) := by
  refine Met.ofW (cc := cX5_takeUp) (maxL := 5) (ret := none) (by decide +kernel) rfl ?_
  intro p e s m args below meth c s₁ B hml hv
  obtain ⟨rfl, hP, hK⟩ := hv
  have hx := B.exec
  have hb := B.bytes
  have hr := B.returns
  have hts := atoms_spec (ws := wsX5_takeUp) B.pre
  have hown : s.vm.findClass RX5 = some m.cls := findClass_of_methodNamed B.named
  have hlocks := B.notSynchronized
  have hS : va_S (Aof P ad) s.heap s.heap [] := va_S.rf
  have hl := lv_entry ([.ref (ad (20, 0)), .int x1, .int x2, .int x3, .int x4] : List Value) (n := 5) (Nat.le_of_ble_eq_true rfl)
  rw [lg_entry_eq]
  generalize (lg_sl ([.ref (ad (20, 0)), .int x1, .int x2, .int x3, .int x4] : List Value) ++ List.replicate (5 - (lg_sl ([.ref (ad (20, 0)), .int x1, .int x2, .int x3, .int x4] : List Value)).length) Slot.unset).toArray = ls at hl ⊢
  have hl : lv_has ls 5 [(0, .ref (ad (20, 0))), (1, .int x1), (2, .int x2), (3, .int x3), (4, .int x4)] := hl
  unfold wp_X5_takeUp at h
  refine lv_aload_n hx hb dX5_takeUp_0 rfl (lv_at hl 0 rfl) ?_
  refine x_get (C := RX5) (T := TX5) (N := 25) (ci := 5) (a := 20) (k := 0) (v := .ref (ad (29, 0))) hx hb hts iw_X5_takeUp_X5 hown hK hP (in1m hC (a := 20) (by decide) (by decide)) rfl rfl 9 (by decide) (hts (.fieldLink RX5 36 "PageOwnersModel" "page" "[I") (by decide +kernel)) (fun _ h9 => h9) rfl dX5_takeUp_1 ?_
  refine lv_iload_n hx hb dX5_takeUp_4 rfl (lv_at hl 1 rfl) ?_
  refine lv_iload_n hx hb dX5_takeUp_5 rfl (lv_at hl 2 rfl) ?_
  have hin3 := h.1
  have h := h.2
  refine x_iast (a := 29) (k := 0) (n := 6) hx hb hK hP hAd hS (in1m hC (a := 29) (by decide) (by decide)) (fun _ => rfl) hin3 dX5_takeUp_6 (fun H locs hP hS => ?_)
  obtain ⟨σ1, e2⟩ : ∃ z, z = sI σ 29 0 (ix x1) x2 := ⟨_, rfl⟩
  rw [← e2] at hP
  have h := h σ1 e2
  refine lv_aload_n hx hb dX5_takeUp_7 rfl (lv_at hl 0 rfl) ?_
  refine x_get (C := RX5) (T := TX5) (N := 25) (ci := 5) (a := 20) (k := 0) (v := .ref (ad (30, 0))) hx hb hts iw_X5_takeUp_X5 hown hK hP (in1m hC (a := 20) (by decide) (by decide)) rfl rfl 10 (by decide) (hts (.fieldLink RX5 39 "PageOwnersModel" "word" "[I") (by decide +kernel)) (fun _ h9 => h9) rfl dX5_takeUp_8 ?_
  refine lv_iload_n hx hb dX5_takeUp_11 rfl (lv_at hl 1 rfl) ?_
  refine lv_iload_n hx hb dX5_takeUp_12 rfl (lv_at hl 3 rfl) ?_
  have hin6 := h.1
  have h := h.2
  refine x_iast (a := 30) (k := 0) (n := 6) hx hb hK hP hAd hS (in1m hC (a := 30) (by decide) (by decide)) (fun _ => rfl) hin6 dX5_takeUp_13 (fun H locs hP hS => ?_)
  obtain ⟨σ4, e5⟩ : ∃ z, z = sI σ1 30 0 (ix x1) x3 := ⟨_, rfl⟩
  rw [← e5] at hP
  have h := h σ4 e5
  refine lv_aload_n hx hb dX5_takeUp_14 rfl (lv_at hl 0 rfl) ?_
  refine x_get (C := RX5) (T := TX5) (N := 25) (ci := 5) (a := 20) (k := 0) (v := .ref (ad (31, 0))) hx hb hts iw_X5_takeUp_X5 hown hK hP (in1m hC (a := 20) (by decide) (by decide)) rfl rfl 11 (by decide) (hts (.fieldLink RX5 42 "PageOwnersModel" "isWrite" "[Z") (by decide +kernel)) (fun _ h9 => h9) rfl dX5_takeUp_15 ?_
  refine lv_iload_n hx hb dX5_takeUp_18 rfl (lv_at hl 1 rfl) ?_
  refine lv_iload hx hb dX5_takeUp_19 (lv_at hl 4 rfl) ?_
  have hin9 := h.1
  have h := h.2
  have z10 := h.1
  have h := h.2
  refine x_zast (a := 31) (k := 0) (n := 6) hx hb hK hP hAd hS (in1m hC (a := 31) (by decide) (by decide)) (fun _ => rfl) hin9 z10 dX5_takeUp_21 (fun H locs hP hS => ?_)
  obtain ⟨σ7, e8⟩ : ∃ z, z = sI σ4 31 0 (ix x1) x4 := ⟨_, rfl⟩
  rw [← e8] at hP
  have h := h σ7 e8
  refine lv_aload_n hx hb dX5_takeUp_22 rfl (lv_at hl 0 rfl) ?_
  refine x_get (C := RX5) (T := TX5) (N := 25) (ci := 5) (a := 20) (k := 0) (v := .ref (ad (33, 0))) hx hb hts iw_X5_takeUp_X5 hown hK hP (in1m hC (a := 20) (by decide) (by decide)) rfl rfl 13 (by decide) (hts (.fieldLink RX5 48 "PageOwnersModel" "answers" "[I") (by decide +kernel)) (fun _ h9 => h9) rfl dX5_takeUp_23 ?_
  refine lv_iload_n hx hb dX5_takeUp_26 rfl (lv_at hl 1 rfl) ?_
  refine lv_iconst (v := 0) hx hb dX5_takeUp_27 (by decide) ?_
  have hin13 := h.1
  have h := h.2
  refine x_iast (a := 33) (k := 0) (n := 6) hx hb hK hP hAd hS (in1m hC (a := 33) (by decide) (by decide)) (fun _ => rfl) hin13 dX5_takeUp_28 (fun H locs hP hS => ?_)
  obtain ⟨σ11, e12⟩ : ∃ z, z = sI σ7 33 0 (ix x1) 0 := ⟨_, rfl⟩
  rw [← e12] at hP
  have h := h σ11 e12
  refine lv_aload_n hx hb dX5_takeUp_29 rfl (lv_at hl 0 rfl) ?_
  refine x_get (C := RX5) (T := TX5) (N := 25) (ci := 5) (a := 20) (k := 0) (v := .ref (ad (34, 0))) hx hb hts iw_X5_takeUp_X5 hown hK hP (in1m hC (a := 20) (by decide) (by decide)) rfl rfl 14 (by decide) (hts (.fieldLink RX5 51 "PageOwnersModel" "wasCalled" "[Z") (by decide +kernel)) (fun _ h9 => h9) rfl dX5_takeUp_30 ?_
  refine lv_iload_n hx hb dX5_takeUp_33 rfl (lv_at hl 1 rfl) ?_
  refine lv_iconst (v := 0) hx hb dX5_takeUp_34 (by decide) ?_
  have hin16 := h.1
  have h := h.2
  refine x_zast (a := 34) (k := 0) (n := 6) hx hb hK hP hAd hS (in1m hC (a := 34) (by decide) (by decide)) (fun _ => rfl) hin16 (by decide) dX5_takeUp_35 (fun H locs hP hS => ?_)
  obtain ⟨σ14, e15⟩ : ∃ z, z = sI σ11 34 0 (ix x1) 0 := ⟨_, rfl⟩
  rw [← e15] at hP
  have h := h σ14 e15
  refine lv_aload_n hx hb dX5_takeUp_36 rfl (lv_at hl 0 rfl) ?_
  refine x_get (C := RX5) (T := TX5) (N := 25) (ci := 5) (a := 20) (k := 0) (v := .ref (ad (35, 0))) hx hb hts iw_X5_takeUp_X5 hown hK hP (in1m hC (a := 20) (by decide) (by decide)) rfl rfl 15 (by decide) (hts (.fieldLink RX5 54 "PageOwnersModel" "hadOne" "[Z") (by decide +kernel)) (fun _ h9 => h9) rfl dX5_takeUp_37 ?_
  refine lv_iload_n hx hb dX5_takeUp_40 rfl (lv_at hl 1 rfl) ?_
  refine lv_iconst (v := 1) hx hb dX5_takeUp_41 (by decide) ?_
  have hin19 := h.1
  have h := h.2
  refine x_zast (a := 35) (k := 0) (n := 6) hx hb hK hP hAd hS (in1m hC (a := 35) (by decide) (by decide)) (fun _ => rfl) hin19 (by decide) dX5_takeUp_42 (fun H locs hP hS => ?_)
  obtain ⟨σ17, e18⟩ : ∃ z, z = sI σ14 35 0 (ix x1) 1 := ⟨_, rfl⟩
  rw [← e18] at hP
  have h := h σ17 e18
  exact W.vret hx hb hr (fun t ht hW => ⟨⟨σ17, rfl, h, by rw [ht]; exact hP, va_K.moved hW.alike hK⟩, hS.F ht⟩) hS.2.2 dX5_takeUp_43
theorem iw_X5_callBack_X5 : ∀ w ∈ wsX50, w ∈ wsX5_callBack := fun _ h => List.mem_cons_of_mem _ (List.mem_append_right _ h)
def lp_X5_callBack_16 (x1 : Int32) (Q : Sg → Int32 → Prop) : Nat → Sg → Int32 → Int32 → Int32 → Prop
  | 0, _, _, _, _ => False
  | n + 1, σ, y2, y3, y4 => (((σ.1 20 0 0) ≤ y4 → (vp_in y2 48 ∧ (∀ σ6, σ6 = sI σ 24 0 (ix y2) 0 → (vp_in x1 6 ∧ (∀ σ9, σ9 = sI σ6 33 0 (ix x1) y3 → ((y3 = 0 → (vp_in y2 48 ∧ (∀ σ13, σ13 = sI σ9 21 0 (ix y2) 2 → (wp_X5_finish σ13 x1 (fun σ16 => (Q σ16 1)))))) ∧ (¬ (y3 = 0) → (vp_in x1 6 ∧ (∀ σ19, σ19 = sI σ9 28 0 (ix x1) 3 → (Q σ19 0)))))))))) ∧ (¬ ((σ.1 20 0 0) ≤ y4) → (vp_in y2 48 ∧ (((((σ.1 24 0 (ix y2)) >>> (y4 &&& 31)) &&& 1) = 1 → (vp_in x1 6 ∧ (wp_X5_send σ 5 x1 y4 (σ.1 29 0 (ix x1)) (-1) 0 (fun σ25 => (∀ σ28, σ28 = sI σ25 41 0 (ix 5) ((σ25.1 41 0 (ix 5)) + 1) → lp_X5_callBack_16 x1 Q n σ28 y2 (y3 + 1) (y4 + 1)))))) ∧ (¬ ((((σ.1 24 0 (ix y2)) >>> (y4 &&& 31)) &&& 1) = 1) → lp_X5_callBack_16 x1 Q n σ y2 y3 (y4 + 1))))))
def wp_X5_callBack (σ : Sg) (x1 : Int32) (Q : Sg → Int32 → Prop) : Prop := (vp_in x1 6 ∧ (wp_X5_place σ x1 (σ.1 29 0 (ix x1)) (fun σ2 r3 => (∃ n30, lp_X5_callBack_16 x1 Q n30 σ2 r3 0 0))))
abbrev rm_X5_callBack : Room := { frames := 2, cells := 0, slots := 0, locals := 49 }
set_option maxHeartbeats 4000000 in
set_option maxRecDepth 100000 in
theorem c_X5_callBack (l : Launch) {D : va_G} {P : List (Nat × Nat)} {ad : Nat × Nat → Nat} {cy : Nat → ClassId} (hAd : AdOk P ad) (hC : InM P) (σ : Sg) (x1 : Int32) (Q : Sg → Int32 → Prop) (h : wp_X5_callBack σ x1 Q) : Met l yX5_callBack wsX5_callBack rm_X5_callBack (xPc D P ad cy σ [.ref (ad (20, 0)), .int x1]) (va_Qi (fun r σ' => Q σ' r) (xB D P ad cy) (Aof P ad)) 0 0 (Aof P ad) := by
  refine Met.ofW (cc := cX5_callBack) (maxL := 5) (ret := (some .boolean)) (by decide +kernel) rfl ?_
  intro p e s m args below meth c s₁ B hml hv
  obtain ⟨rfl, hP, hK⟩ := hv
  have hx := B.exec
  have hb := B.bytes
  have hr := B.returns
  have hts := atoms_spec (ws := wsX5_callBack) B.pre
  have hown : s.vm.findClass RX5 = some m.cls := findClass_of_methodNamed B.named
  have hlocks := B.notSynchronized
  have hS : va_S (Aof P ad) s.heap s.heap [] := va_S.rf
  have hl := lv_entry ([.ref (ad (20, 0)), .int x1] : List Value) (n := 5) (Nat.le_of_ble_eq_true rfl)
  rw [lg_entry_eq]
  generalize (lg_sl ([.ref (ad (20, 0)), .int x1] : List Value) ++ List.replicate (5 - (lg_sl ([.ref (ad (20, 0)), .int x1] : List Value)).length) Slot.unset).toArray = ls at hl ⊢
  have hl : lv_has ls 5 [(0, .ref (ad (20, 0))), (1, .int x1)] := hl
  have L16 : ∀ (n : Nat) (σ : Sg) (y2 : Int32) (y3 : Int32) (y4 : Int32) (H : Heap) (locs : List Loc) (ls : Array Slot), lp_X5_callBack_16 x1 Q n σ y2 y3 y4 → Wo D P ad cy σ H → va_S (Aof P ad) s.heap H locs → lv_has ls 5 [(0, .ref (ad (20, 0))), (1, .int x1), (2, .int y2), (3, .int y3), (4, .int y4)] → W p l e (headSpec wsX5_callBack rm_X5_callBack).room s m ([.ref (ad (20, 0)), .int x1] : List Value).toArray below meth c H locs 0 0 (MQ below (va_Qi (fun r σ' => Q σ' r) (xB D P ad cy) (Aof P ad)) ([.ref (ad (20, 0)), .int x1] : List Value).toArray s 0 0 (Aof P ad)) (F0 m 16 ls []) := by
    intro n
    induction n with
    | zero =>
      intro σ y2 y3 y4 H locs ls h
      exact h.elim
    | succ n ih =>
      intro σ y2 y3 y4 H locs ls h hP hS hl
      rw [lp_X5_callBack_16] at h
      refine lv_iload hx hb dX5_callBack_16 (lv_at hl 4 rfl) ?_
      refine lv_aload_n hx hb dX5_callBack_18 rfl (lv_at hl 0 rfl) ?_
      refine x_get (C := RX5) (T := TX5) (N := 25) (ci := 5) (a := 20) (k := 0) (v := .int (σ.1 20 0 0)) hx hb hts iw_X5_callBack_X5 hown hK hP (in1m hC (a := 20) (by decide) (by decide)) rfl rfl 0 (by decide) (hts (.fieldLink RX5 85 "PageOwnersModel" "nodes" "I") (by decide +kernel)) (fun _ h9 => h9) rfl dX5_callBack_19 ?_
      refine lv_icmp_ge (tgt := 75) hx hb dX5_callBack_22 (by decide) (fun c5 => ?_) (fun c5 => ?_)
      · have h := h.1 c5
        refine lv_aload_n hx hb dX5_callBack_75 rfl (lv_at hl 0 rfl) ?_
        refine x_get (C := RX5) (T := TX5) (N := 25) (ci := 5) (a := 20) (k := 0) (v := .ref (ad (24, 0))) hx hb hts iw_X5_callBack_X5 hown hK hP (in1m hC (a := 20) (by decide) (by decide)) rfl rfl 4 (by decide) (hts (.fieldLink RX5 20 "PageOwnersModel" "copies" "[I") (by decide +kernel)) (fun _ h9 => h9) rfl dX5_callBack_76 ?_
        refine lv_iload_n hx hb dX5_callBack_79 rfl (lv_at hl 2 rfl) ?_
        refine lv_iconst (v := 0) hx hb dX5_callBack_80 (by decide) ?_
        have hin8 := h.1
        have h := h.2
        refine x_iast (a := 24) (k := 0) (n := 48) hx hb hK hP hAd hS (in1m hC (a := 24) (by decide) (by decide)) (fun _ => rfl) hin8 dX5_callBack_81 (fun H locs hP hS => ?_)
        obtain ⟨σ6, e7⟩ : ∃ z, z = sI σ 24 0 (ix y2) 0 := ⟨_, rfl⟩
        rw [← e7] at hP
        have h := h σ6 e7
        refine lv_aload_n hx hb dX5_callBack_82 rfl (lv_at hl 0 rfl) ?_
        refine x_get (C := RX5) (T := TX5) (N := 25) (ci := 5) (a := 20) (k := 0) (v := .ref (ad (33, 0))) hx hb hts iw_X5_callBack_X5 hown hK hP (in1m hC (a := 20) (by decide) (by decide)) rfl rfl 13 (by decide) (hts (.fieldLink RX5 48 "PageOwnersModel" "answers" "[I") (by decide +kernel)) (fun _ h9 => h9) rfl dX5_callBack_83 ?_
        refine lv_iload_n hx hb dX5_callBack_86 rfl (lv_at hl 1 rfl) ?_
        refine lv_iload_n hx hb dX5_callBack_87 rfl (lv_at hl 3 rfl) ?_
        have hin11 := h.1
        have h := h.2
        refine x_iast (a := 33) (k := 0) (n := 6) hx hb hK hP hAd hS (in1m hC (a := 33) (by decide) (by decide)) (fun _ => rfl) hin11 dX5_callBack_88 (fun H locs hP hS => ?_)
        obtain ⟨σ9, e10⟩ : ∃ z, z = sI σ6 33 0 (ix x1) y3 := ⟨_, rfl⟩
        rw [← e10] at hP
        have h := h σ9 e10
        refine lv_iload_n hx hb dX5_callBack_89 rfl (lv_at hl 3 rfl) ?_
        refine lv_if_ne (tgt := 107) hx hb dX5_callBack_90 (by decide) (fun c12 => ?_) (fun c12 => ?_)
        · have h := h.2 c12
          refine lv_aload_n hx hb dX5_callBack_107 rfl (lv_at hl 0 rfl) ?_
          refine x_get (C := RX5) (T := TX5) (N := 25) (ci := 5) (a := 20) (k := 0) (v := .ref (ad (28, 0))) hx hb hts iw_X5_callBack_X5 hown hK hP (in1m hC (a := 20) (by decide) (by decide)) rfl rfl 8 (by decide) (hts (.fieldLink RX5 33 "PageOwnersModel" "waits" "[I") (by decide +kernel)) (fun _ h9 => h9) rfl dX5_callBack_108 ?_
          refine lv_iload_n hx hb dX5_callBack_111 rfl (lv_at hl 1 rfl) ?_
          refine lv_iconst (v := 3) hx hb dX5_callBack_112 (by decide) ?_
          have hin21 := h.1
          have h := h.2
          refine x_iast (a := 28) (k := 0) (n := 6) hx hb hK hP hAd hS (in1m hC (a := 28) (by decide) (by decide)) (fun _ => rfl) hin21 dX5_callBack_113 (fun H locs hP hS => ?_)
          obtain ⟨σ19, e20⟩ : ∃ z, z = sI σ9 28 0 (ix x1) 3 := ⟨_, rfl⟩
          rw [← e20] at hP
          have h := h σ19 e20
          refine lv_iconst (v := 0) hx hb dX5_callBack_114 (by decide) ?_
          exact W.zret (v := 0) hx hb hr rfl (fun t ht hW => ⟨⟨0, σ19, rfl, h, by rw [ht]; exact hP, va_K.moved hW.alike hK⟩, hS.F ht⟩) hS.2.2 dX5_callBack_115
        · have h := h.1 c12
          refine lv_aload_n hx hb dX5_callBack_93 rfl (lv_at hl 0 rfl) ?_
          refine x_get (C := RX5) (T := TX5) (N := 25) (ci := 5) (a := 20) (k := 0) (v := .ref (ad (21, 0))) hx hb hts iw_X5_callBack_X5 hown hK hP (in1m hC (a := 20) (by decide) (by decide)) rfl rfl 1 (by decide) (hts (.fieldLink RX5 7 "PageOwnersModel" "access" "[I") (by decide +kernel)) (fun _ h9 => h9) rfl dX5_callBack_94 ?_
          refine lv_iload_n hx hb dX5_callBack_97 rfl (lv_at hl 2 rfl) ?_
          refine lv_iconst (v := 2) hx hb dX5_callBack_98 (by decide) ?_
          have hin15 := h.1
          have h := h.2
          refine x_iast (a := 21) (k := 0) (n := 48) hx hb hK hP hAd hS (in1m hC (a := 21) (by decide) (by decide)) (fun _ => rfl) hin15 dX5_callBack_99 (fun H locs hP hS => ?_)
          obtain ⟨σ13, e14⟩ : ∃ z, z = sI σ9 21 0 (ix y2) 2 := ⟨_, rfl⟩
          rw [← e14] at hP
          have h := h σ13 e14
          refine lv_aload_n hx hb dX5_callBack_100 rfl (lv_at hl 0 rfl) ?_
          refine lv_iload_n hx hb dX5_callBack_101 rfl (lv_at hl 1 rfl) ?_
          refine x_cVv (C := RX5) (As := [.int x1]) (rest := []) ⟨hx, hb, hml, hown, hts⟩ hK hP hS (c_X5_finish l hAd hC σ13 x1 _ h) (cwV 1 hts gX5_callBack_X5_finish rfl rfl rfl (by decide +kernel) ⟨Nat.le_of_ble_eq_true rfl, Nat.le_of_ble_eq_true rfl⟩) (x_recv hK hP (in1m hC (a := 20) (by decide) (by decide)) rfl rfl) rfl hl.1 rfl (Nat.le_of_ble_eq_true rfl) dX5_callBack_102 ⟨Nat.zero_le _, Nat.zero_le _⟩ (fun σ16 H locs h hP hS => ?_)
          refine lv_iconst (v := 1) hx hb dX5_callBack_105 (by decide) ?_
          exact W.zret (v := 1) hx hb hr rfl (fun t ht hW => ⟨⟨1, σ16, rfl, h, by rw [ht]; exact hP, va_K.moved hW.alike hK⟩, hS.F ht⟩) hS.2.2 dX5_callBack_106
      · have h := h.2 c5
        refine lv_aload_n hx hb dX5_callBack_25 rfl (lv_at hl 0 rfl) ?_
        refine x_get (C := RX5) (T := TX5) (N := 25) (ci := 5) (a := 20) (k := 0) (v := .ref (ad (24, 0))) hx hb hts iw_X5_callBack_X5 hown hK hP (in1m hC (a := 20) (by decide) (by decide)) rfl rfl 4 (by decide) (hts (.fieldLink RX5 20 "PageOwnersModel" "copies" "[I") (by decide +kernel)) (fun _ h9 => h9) rfl dX5_callBack_26 ?_
        refine lv_iload_n hx hb dX5_callBack_29 rfl (lv_at hl 2 rfl) ?_
        have hin22 := h.1
        have h := h.2
        refine x_iald (a := 24) (k := 0) (n := 48) hx hb hK hP (in1m hC (a := 24) (by decide) (by decide)) (fun _ => rfl) hin22 dX5_callBack_30 ?_
        refine lv_iload hx hb dX5_callBack_31 (lv_at hl 4 rfl) ?_
        refine lv_ishr hx hb dX5_callBack_33 ?_
        refine lv_iconst (v := 1) hx hb dX5_callBack_34 (by decide) ?_
        refine lv_iand hx hb dX5_callBack_35 ?_
        refine lv_iconst (v := 1) hx hb dX5_callBack_36 (by decide) ?_
        refine lv_icmp_ne (tgt := 69) hx hb dX5_callBack_37 (by decide) (fun c23 => ?_) (fun c23 => ?_)
        · have h := h.2 c23
          refine lv_iinc (v := (y4 + 1)) (lv' := [(4, .int (y4 + 1)), (0, .ref (ad (20, 0))), (1, .int x1), (2, .int y2), (3, .int y3)]) hx hb dX5_callBack_69 hl (k := 4) rfl rfl (by decide) rfl (fun ls hl => ?_)
          refine lv_goto (tgt := 16) hx hb dX5_callBack_72 (by decide) ?_
          exact ih σ y2 y3 (y4 + 1) _ _ _ h hP hS (lv_sub hl [1, 2, 3, 4, 0] rfl)
        · have h := h.1 c23
          refine lv_aload_n hx hb dX5_callBack_40 rfl (lv_at hl 0 rfl) ?_
          refine lv_iconst (v := 5) hx hb dX5_callBack_41 (by decide) ?_
          refine lv_iload_n hx hb dX5_callBack_42 rfl (lv_at hl 1 rfl) ?_
          refine lv_iload hx hb dX5_callBack_43 (lv_at hl 4 rfl) ?_
          refine lv_aload_n hx hb dX5_callBack_45 rfl (lv_at hl 0 rfl) ?_
          refine x_get (C := RX5) (T := TX5) (N := 25) (ci := 5) (a := 20) (k := 0) (v := .ref (ad (29, 0))) hx hb hts iw_X5_callBack_X5 hown hK hP (in1m hC (a := 20) (by decide) (by decide)) rfl rfl 9 (by decide) (hts (.fieldLink RX5 36 "PageOwnersModel" "page" "[I") (by decide +kernel)) (fun _ h9 => h9) rfl dX5_callBack_46 ?_
          refine lv_iload_n hx hb dX5_callBack_49 rfl (lv_at hl 1 rfl) ?_
          have hin24 := h.1
          have h := h.2
          refine x_iald (a := 29) (k := 0) (n := 6) hx hb hK hP (in1m hC (a := 29) (by decide) (by decide)) (fun _ => rfl) hin24 dX5_callBack_50 ?_
          refine lv_iconst (v := (-1)) hx hb dX5_callBack_51 (by decide) ?_
          refine lv_iconst (v := 0) hx hb dX5_callBack_52 (by decide) ?_
          refine x_cVv (C := RX5) (As := [.int 5, .int x1, .int y4, .int (σ.1 29 0 (ix x1)), .int (-1), .int 0]) (rest := []) ⟨hx, hb, hml, hown, hts⟩ hK hP hS (c_X5_send l hAd hC σ 5 x1 y4 (σ.1 29 0 (ix x1)) (-1) 0 _ h) (cwV 6 hts gX5_callBack_X5_send rfl rfl rfl (by decide +kernel) ⟨Nat.le_of_ble_eq_true rfl, Nat.le_of_ble_eq_true rfl⟩) (x_recv hK hP (in1m hC (a := 20) (by decide) (by decide)) rfl rfl) rfl hl.1 rfl (Nat.le_of_ble_eq_true rfl) dX5_callBack_53 ⟨Nat.zero_le _, Nat.zero_le _⟩ (fun σ25 H locs h hP hS => ?_)
          refine lv_aload_n hx hb dX5_callBack_56 rfl (lv_at hl 0 rfl) ?_
          refine x_get (C := RX5) (T := TX5) (N := 25) (ci := 5) (a := 20) (k := 0) (v := .ref (ad (41, 0))) hx hb hts iw_X5_callBack_X5 hown hK hP (in1m hC (a := 20) (by decide) (by decide)) rfl rfl 21 (by decide) (hts (.fieldLink RX5 69 "PageOwnersModel" "counts" "[I") (by decide +kernel)) (fun _ h9 => h9) rfl dX5_callBack_57 ?_
          refine lv_iconst (v := 5) hx hb dX5_callBack_60 (by decide) ?_
          refine lv_dup2_11 hx hb dX5_callBack_61 rfl rfl ?_
          refine x_iald (a := 41) (k := 0) (n := 8) hx hb hK hP (in1m hC (a := 41) (by decide) (by decide)) (fun _ => rfl) (by unfold vp_in; decide) dX5_callBack_62 ?_
          refine lv_iconst (v := 1) hx hb dX5_callBack_63 (by decide) ?_
          refine lv_iadd hx hb dX5_callBack_64 ?_
          refine x_iast (a := 41) (k := 0) (n := 8) hx hb hK hP hAd hS (in1m hC (a := 41) (by decide) (by decide)) (fun _ => rfl) (by unfold vp_in; decide) dX5_callBack_65 (fun H locs hP hS => ?_)
          obtain ⟨σ28, e29⟩ : ∃ z, z = sI σ25 41 0 (ix 5) ((σ25.1 41 0 (ix 5)) + 1) := ⟨_, rfl⟩
          rw [← e29] at hP
          have h := h σ28 e29
          refine lv_iinc (v := (y3 + 1)) (lv' := [(3, .int (y3 + 1)), (0, .ref (ad (20, 0))), (1, .int x1), (2, .int y2), (4, .int y4)]) hx hb dX5_callBack_66 hl (k := 3) rfl rfl (by decide) rfl (fun ls hl => ?_)
          refine lv_iinc (v := (y4 + 1)) (lv' := [(4, .int (y4 + 1)), (3, .int (y3 + 1)), (0, .ref (ad (20, 0))), (1, .int x1), (2, .int y2)]) hx hb dX5_callBack_69 hl (k := 4) rfl rfl (by decide) rfl (fun ls hl => ?_)
          refine lv_goto (tgt := 16) hx hb dX5_callBack_72 (by decide) ?_
          exact ih σ28 y2 (y3 + 1) (y4 + 1) _ _ _ h hP hS (lv_sub hl [2, 3, 4, 1, 0] rfl)
  unfold wp_X5_callBack at h
  refine lv_iload_n hx hb dX5_callBack_0 rfl (lv_at hl 1 rfl) ?_
  refine lv_aload_n hx hb dX5_callBack_1 rfl (lv_at hl 0 rfl) ?_
  refine x_get (C := RX5) (T := TX5) (N := 25) (ci := 5) (a := 20) (k := 0) (v := .ref (ad (29, 0))) hx hb hts iw_X5_callBack_X5 hown hK hP (in1m hC (a := 20) (by decide) (by decide)) rfl rfl 9 (by decide) (hts (.fieldLink RX5 36 "PageOwnersModel" "page" "[I") (by decide +kernel)) (fun _ h9 => h9) rfl dX5_callBack_2 ?_
  refine lv_iload_n hx hb dX5_callBack_5 rfl (lv_at hl 1 rfl) ?_
  have hin1 := h.1
  have h := h.2
  refine x_iald (a := 29) (k := 0) (n := 6) hx hb hK hP (in1m hC (a := 29) (by decide) (by decide)) (fun _ => rfl) hin1 dX5_callBack_6 ?_
  refine x_cSi (As := [.int x1, .int (σ.1 29 0 (ix x1))]) (rest := []) ⟨hx, hb, hml, hown, hts⟩ hK hP hS (c_X5_place l hAd hC σ x1 (σ.1 29 0 (ix x1)) _ h) (va_cwS 2 hts gX5_callBack_X5_place rfl rfl rfl (by decide +kernel) ⟨Nat.le_of_ble_eq_true rfl, Nat.le_of_ble_eq_true rfl⟩) rfl hl.1 rfl (Nat.le_of_ble_eq_true rfl) dX5_callBack_7 ⟨Nat.zero_le _, Nat.zero_le _⟩ (fun r3 σ2 H locs h hP hS => ?_)
  refine lv_istore_n (lv' := [(2, .int r3), (0, .ref (ad (20, 0))), (1, .int x1)]) hx hb dX5_callBack_10 rfl hl (by decide) rfl (fun ls hl => ?_)
  refine lv_iconst (v := 0) hx hb dX5_callBack_11 (by decide) ?_
  refine lv_istore_n (lv' := [(3, .int 0), (2, .int r3), (0, .ref (ad (20, 0))), (1, .int x1)]) hx hb dX5_callBack_12 rfl hl (by decide) rfl (fun ls hl => ?_)
  refine lv_iconst (v := 0) hx hb dX5_callBack_13 (by decide) ?_
  refine lv_istore (lv' := [(4, .int 0), (3, .int 0), (2, .int r3), (0, .ref (ad (20, 0))), (1, .int x1)]) hx hb dX5_callBack_14 hl (by decide) rfl (fun ls hl => ?_)
  obtain ⟨n30, h⟩ := h
  exact L16 n30 σ2 r3 0 0 _ _ _ h hP hS (lv_sub hl [3, 4, 2, 1, 0] rfl)
theorem iw_X5_ask_X5 : ∀ w ∈ wsX50, w ∈ wsX5_ask := fun _ h => List.mem_cons_of_mem _ (List.mem_append_right _ h)
def wp_X5_ask (σ : Sg) (x1 : Int32) (x2 : Int32) (x3 : Int32) (x4 : Int32) (x5 : Int64) (Q : Sg → Int32 → Prop) : Prop := (wp_X5_isNode σ x1 (fun σ1 r2 => ((r2 = 0 → Q σ1 (-1)) ∧ (¬ (r2 = 0) → (wp_X5_isPage σ1 x2 (fun σ6 r7 => ((r7 = 0 → Q σ6 (-1)) ∧ (¬ (r7 = 0) → ((x3 < 0 → Q σ6 (-1)) ∧ (¬ (x3 < 0) → ((4 ≤ x3 → Q σ6 (-1)) ∧ (¬ (4 ≤ x3) → (vp_in x1 6 ∧ (((σ6.1 28 0 (ix x1)) = 0 → (wp_X5_takeUp σ6 x1 x2 x3 x4 (fun σ18 => (vp_in x1 6 ∧ (∀ σ21, σ21 = sL σ18 32 0 (ix x1) x5 → (wp_X5_place σ21 x1 x2 (fun σ24 r25 => (vp_in r25 48 ∧ ((x4 = 0 → (((σ24.1 21 0 (ix r25)) < 1 → (vp_in x1 6 ∧ (∀ σ32, σ32 = sI σ24 28 0 (ix x1) 1 → (vp_in r25 48 ∧ (wp_X5_send σ32 1 x1 (σ32.1 23 0 (ix r25)) x2 x1 0 (fun σ37 => Q σ37 0)))))) ∧ (¬ ((σ24.1 21 0 (ix r25)) < 1) → (wp_X5_finish σ24 x1 (fun σ40 => (∀ σ43, σ43 = sI σ40 41 0 (ix 7) ((σ40.1 41 0 (ix 7)) + 1) → Q σ43 1)))))) ∧ (¬ (x4 = 0) → (((σ24.1 21 0 (ix r25)) < 2 → (vp_in r25 48 ∧ (((σ24.1 22 0 (ix r25)) = 0 → (vp_in x1 6 ∧ (∀ σ50, σ50 = sI σ24 28 0 (ix x1) 2 → (vp_in r25 48 ∧ (wp_X5_send σ50 2 x1 (σ50.1 23 0 (ix r25)) x2 x1 0 (fun σ55 => Q σ55 0)))))) ∧ (¬ ((σ24.1 22 0 (ix r25)) = 0) → (wp_X5_callBack σ24 x1 (fun σ58 r59 => ((r59 = 0 → Q σ58 0) ∧ (¬ (r59 = 0) → (∀ σ62, σ62 = sI σ58 41 0 (ix 7) ((σ58.1 41 0 (ix 7)) + 1) → Q σ62 1))))))))) ∧ (¬ ((σ24.1 21 0 (ix r25)) < 2) → (wp_X5_finish σ24 x1 (fun σ64 => (∀ σ67, σ67 = sI σ64 41 0 (ix 7) ((σ64.1 41 0 (ix 7)) + 1) → Q σ67 1))))))))))))))) ∧ (¬ ((σ6.1 28 0 (ix x1)) = 0) → Q σ6 (-1))))))))))))))))
abbrev rm_X5_ask : Room := { frames := 3, cells := 0, slots := 0, locals := 73 }
set_option maxHeartbeats 4000000 in
set_option maxRecDepth 100000 in
theorem c_X5_ask (l : Launch) {D : va_G} {P : List (Nat × Nat)} {ad : Nat × Nat → Nat} {cy : Nat → ClassId} (hAd : AdOk P ad) (hC : InM P) (σ : Sg) (x1 : Int32) (x2 : Int32) (x3 : Int32) (x4 : Int32) (x5 : Int64) (Q : Sg → Int32 → Prop) (h : wp_X5_ask σ x1 x2 x3 x4 x5 Q) : Met l yX5_ask wsX5_ask rm_X5_ask (xPc D P ad cy σ [.ref (ad (20, 0)), .int x1, .int x2, .int x3, .int x4, .long x5]) (va_Qi (fun r σ' => Q σ' r) (xB D P ad cy) (Aof P ad)) 0 0 (Aof P ad) := by
  refine Met.ofW (cc := cX5_ask) (maxL := 9) (ret := (some .int)) (by decide +kernel) rfl ?_
  intro p e s m args below meth c s₁ B hml hv
  obtain ⟨rfl, hP, hK⟩ := hv
  have hx := B.exec
  have hb := B.bytes
  have hr := B.returns
  have hts := atoms_spec (ws := wsX5_ask) B.pre
  have hown : s.vm.findClass RX5 = some m.cls := findClass_of_methodNamed B.named
  have hlocks := B.notSynchronized
  have hS : va_S (Aof P ad) s.heap s.heap [] := va_S.rf
  have hl := lv_entry ([.ref (ad (20, 0)), .int x1, .int x2, .int x3, .int x4, .long x5] : List Value) (n := 9) (Nat.le_of_ble_eq_true rfl)
  rw [lg_entry_eq]
  generalize (lg_sl ([.ref (ad (20, 0)), .int x1, .int x2, .int x3, .int x4, .long x5] : List Value) ++ List.replicate (9 - (lg_sl ([.ref (ad (20, 0)), .int x1, .int x2, .int x3, .int x4, .long x5] : List Value)).length) Slot.unset).toArray = ls at hl ⊢
  have hl : lv_has ls 9 [(0, .ref (ad (20, 0))), (1, .int x1), (2, .int x2), (3, .int x3), (4, .int x4), (5, .long x5)] := hl
  unfold wp_X5_ask at h
  refine lv_aload_n hx hb dX5_ask_0 rfl (lv_at hl 0 rfl) ?_
  refine lv_iload_n hx hb dX5_ask_1 rfl (lv_at hl 1 rfl) ?_
  refine x_cVi (C := RX5) (As := [.int x1]) (rest := []) ⟨hx, hb, hml, hown, hts⟩ hK hP hS (c_X5_isNode l hAd hC σ x1 _ h) (cwV 1 hts gX5_ask_X5_isNode rfl rfl rfl (by decide +kernel) ⟨Nat.le_of_ble_eq_true rfl, Nat.le_of_ble_eq_true rfl⟩) (x_recv hK hP (in1m hC (a := 20) (by decide) (by decide)) rfl rfl) rfl hl.1 rfl (Nat.le_of_ble_eq_true rfl) dX5_ask_2 ⟨Nat.zero_le _, Nat.zero_le _⟩ (fun r2 σ1 H locs h hP hS => ?_)
  refine lv_if_eq (tgt := 28) hx hb dX5_ask_5 (by decide) (fun c4 => ?_) (fun c4 => ?_)
  · have h := h.1 c4
    refine lv_iconst (v := 0) hx hb dX5_ask_28 (by decide) ?_
    refine lv_istore (lv' := [(7, .int 0), (0, .ref (ad (20, 0))), (1, .int x1), (2, .int x2), (3, .int x3), (4, .int x4), (5, .long x5)]) hx hb dX5_ask_29 hl (by decide) rfl (fun ls hl => ?_)
    refine lv_iload hx hb dX5_ask_31 (lv_at hl 0 rfl) ?_
    refine lv_if_eq (tgt := 45) hx hb dX5_ask_33 (by decide) (fun c5 => ?_) (fun c5 => absurd (by decide) c5)
    refine lv_iconst (v := (-1)) hx hb dX5_ask_45 (by decide) ?_
    exact W.iret (v := (-1)) hx hb hr (fun t ht hW => ⟨⟨(-1), σ1, rfl, h, by rw [ht]; exact hP, va_K.moved hW.alike hK⟩, hS.F ht⟩) hS.2.2 dX5_ask_46
  · have h := h.2 c4
    refine lv_iload_n hx hb dX5_ask_8 rfl (lv_at hl 2 rfl) ?_
    refine x_cSi (As := [.int x2]) (rest := []) ⟨hx, hb, hml, hown, hts⟩ hK hP hS (c_X5_isPage l hAd hC σ1 x2 _ h) (va_cwS 1 hts gX5_ask_X5_isPage rfl rfl rfl (by decide +kernel) ⟨Nat.le_of_ble_eq_true rfl, Nat.le_of_ble_eq_true rfl⟩) rfl hl.1 rfl (Nat.le_of_ble_eq_true rfl) dX5_ask_9 ⟨Nat.zero_le _, Nat.zero_le _⟩ (fun r7 σ6 H locs h hP hS => ?_)
    refine lv_if_eq (tgt := 28) hx hb dX5_ask_12 (by decide) (fun c9 => ?_) (fun c9 => ?_)
    · have h := h.1 c9
      refine lv_iconst (v := 0) hx hb dX5_ask_28 (by decide) ?_
      refine lv_istore (lv' := [(7, .int 0), (0, .ref (ad (20, 0))), (1, .int x1), (2, .int x2), (3, .int x3), (4, .int x4), (5, .long x5)]) hx hb dX5_ask_29 hl (by decide) rfl (fun ls hl => ?_)
      refine lv_iload hx hb dX5_ask_31 (lv_at hl 0 rfl) ?_
      refine lv_if_eq (tgt := 45) hx hb dX5_ask_33 (by decide) (fun c10 => ?_) (fun c10 => absurd (by decide) c10)
      refine lv_iconst (v := (-1)) hx hb dX5_ask_45 (by decide) ?_
      exact W.iret (v := (-1)) hx hb hr (fun t ht hW => ⟨⟨(-1), σ6, rfl, h, by rw [ht]; exact hP, va_K.moved hW.alike hK⟩, hS.F ht⟩) hS.2.2 dX5_ask_46
    · have h := h.2 c9
      refine lv_iload_n hx hb dX5_ask_15 rfl (lv_at hl 3 rfl) ?_
      refine lv_if_lt (tgt := 28) hx hb dX5_ask_16 (by decide) (fun c11 => ?_) (fun c11 => ?_)
      · have h := h.1 c11
        refine lv_iconst (v := 0) hx hb dX5_ask_28 (by decide) ?_
        refine lv_istore (lv' := [(7, .int 0), (0, .ref (ad (20, 0))), (1, .int x1), (2, .int x2), (3, .int x3), (4, .int x4), (5, .long x5)]) hx hb dX5_ask_29 hl (by decide) rfl (fun ls hl => ?_)
        refine lv_iload hx hb dX5_ask_31 (lv_at hl 0 rfl) ?_
        refine lv_if_eq (tgt := 45) hx hb dX5_ask_33 (by decide) (fun c12 => ?_) (fun c12 => absurd (by decide) c12)
        refine lv_iconst (v := (-1)) hx hb dX5_ask_45 (by decide) ?_
        exact W.iret (v := (-1)) hx hb hr (fun t ht hW => ⟨⟨(-1), σ6, rfl, h, by rw [ht]; exact hP, va_K.moved hW.alike hK⟩, hS.F ht⟩) hS.2.2 dX5_ask_46
      · have h := h.2 c11
        refine lv_iload_n hx hb dX5_ask_19 rfl (lv_at hl 3 rfl) ?_
        refine lv_iconst (v := 4) hx hb dX5_ask_20 (by decide) ?_
        refine lv_icmp_ge (tgt := 28) hx hb dX5_ask_21 (by decide) (fun c13 => ?_) (fun c13 => ?_)
        · have h := h.1 c13
          refine lv_iconst (v := 0) hx hb dX5_ask_28 (by decide) ?_
          refine lv_istore (lv' := [(7, .int 0), (0, .ref (ad (20, 0))), (1, .int x1), (2, .int x2), (3, .int x3), (4, .int x4), (5, .long x5)]) hx hb dX5_ask_29 hl (by decide) rfl (fun ls hl => ?_)
          refine lv_iload hx hb dX5_ask_31 (lv_at hl 0 rfl) ?_
          refine lv_if_eq (tgt := 45) hx hb dX5_ask_33 (by decide) (fun c14 => ?_) (fun c14 => absurd (by decide) c14)
          refine lv_iconst (v := (-1)) hx hb dX5_ask_45 (by decide) ?_
          exact W.iret (v := (-1)) hx hb hr (fun t ht hW => ⟨⟨(-1), σ6, rfl, h, by rw [ht]; exact hP, va_K.moved hW.alike hK⟩, hS.F ht⟩) hS.2.2 dX5_ask_46
        · have h := h.2 c13
          refine lv_iconst (v := 1) hx hb dX5_ask_24 (by decide) ?_
          refine lv_goto (tgt := 29) hx hb dX5_ask_25 (by decide) ?_
          refine lv_istore (lv' := [(7, .int 1), (0, .ref (ad (20, 0))), (1, .int x1), (2, .int x2), (3, .int x3), (4, .int x4), (5, .long x5)]) hx hb dX5_ask_29 hl (by decide) rfl (fun ls hl => ?_)
          refine lv_iload hx hb dX5_ask_31 (lv_at hl 0 rfl) ?_
          refine lv_if_eq (tgt := 45) hx hb dX5_ask_33 (by decide) (fun c15 => absurd c15 (by decide)) (fun c15 => ?_)
          refine lv_aload_n hx hb dX5_ask_36 rfl (lv_at hl 1 rfl) ?_
          refine x_get (C := RX5) (T := TX5) (N := 25) (ci := 5) (a := 20) (k := 0) (v := .ref (ad (28, 0))) hx hb hts iw_X5_ask_X5 hown hK hP (in1m hC (a := 20) (by decide) (by decide)) rfl rfl 8 (by decide) (hts (.fieldLink RX5 33 "PageOwnersModel" "waits" "[I") (by decide +kernel)) (fun _ h9 => h9) rfl dX5_ask_37 ?_
          refine lv_iload_n hx hb dX5_ask_40 rfl (lv_at hl 2 rfl) ?_
          have hin16 := h.1
          have h := h.2
          refine x_iald (a := 28) (k := 0) (n := 6) hx hb hK hP (in1m hC (a := 28) (by decide) (by decide)) (fun _ => rfl) hin16 dX5_ask_41 ?_
          refine lv_if_eq (tgt := 47) hx hb dX5_ask_42 (by decide) (fun c17 => ?_) (fun c17 => ?_)
          · have h := h.1 c17
            refine lv_aload_n hx hb dX5_ask_47 rfl (lv_at hl 1 rfl) ?_
            refine lv_iload_n hx hb dX5_ask_48 rfl (lv_at hl 2 rfl) ?_
            refine lv_iload_n hx hb dX5_ask_49 rfl (lv_at hl 3 rfl) ?_
            refine lv_iload_n hx hb dX5_ask_50 rfl (lv_at hl 4 rfl) ?_
            refine lv_iload hx hb dX5_ask_51 (lv_at hl 5 rfl) ?_
            refine x_cVv (C := RX5) (As := [.int x1, .int x2, .int x3, .int x4]) (rest := []) ⟨hx, hb, hml, hown, hts⟩ hK hP hS (c_X5_takeUp l hAd hC σ6 x1 x2 x3 x4 _ h) (cwV 4 hts gX5_ask_X5_takeUp rfl rfl rfl (by decide +kernel) ⟨Nat.le_of_ble_eq_true rfl, Nat.le_of_ble_eq_true rfl⟩) (x_recv hK hP (in1m hC (a := 20) (by decide) (by decide)) rfl rfl) rfl hl.1 rfl (Nat.le_of_ble_eq_true rfl) dX5_ask_53 ⟨Nat.zero_le _, Nat.zero_le _⟩ (fun σ18 H locs h hP hS => ?_)
            refine lv_aload_n hx hb dX5_ask_56 rfl (lv_at hl 1 rfl) ?_
            refine x_get (C := RX5) (T := TX5) (N := 25) (ci := 5) (a := 20) (k := 0) (v := .ref (ad (32, 0))) hx hb hts iw_X5_ask_X5 hown hK hP (in1m hC (a := 20) (by decide) (by decide)) rfl rfl 12 (by decide) (hts (.fieldLink RX5 45 "PageOwnersModel" "value" "[J") (by decide +kernel)) (fun _ h9 => h9) rfl dX5_ask_57 ?_
            refine lv_iload_n hx hb dX5_ask_60 rfl (lv_at hl 2 rfl) ?_
            refine lv_lload hx hb dX5_ask_61 (lv_at hl 6 rfl) ?_
            have hin23 := h.1
            have h := h.2
            refine x_last (a := 32) (k := 0) (n := 6) hx hb hK hP hAd hS (in1m hC (a := 32) (by decide) (by decide)) (fun _ => rfl) hin23 dX5_ask_63 (fun H locs hP hS => ?_)
            obtain ⟨σ21, e22⟩ : ∃ z, z = sL σ18 32 0 (ix x1) x5 := ⟨_, rfl⟩
            rw [← e22] at hP
            have h := h σ21 e22
            refine lv_iload_n hx hb dX5_ask_64 rfl (lv_at hl 2 rfl) ?_
            refine lv_iload_n hx hb dX5_ask_65 rfl (lv_at hl 3 rfl) ?_
            refine x_cSi (As := [.int x1, .int x2]) (rest := []) ⟨hx, hb, hml, hown, hts⟩ hK hP hS (c_X5_place l hAd hC σ21 x1 x2 _ h) (va_cwS 2 hts gX5_ask_X5_place rfl rfl rfl (by decide +kernel) ⟨Nat.le_of_ble_eq_true rfl, Nat.le_of_ble_eq_true rfl⟩) rfl hl.1 rfl (Nat.le_of_ble_eq_true rfl) dX5_ask_66 ⟨Nat.zero_le _, Nat.zero_le _⟩ (fun r25 σ24 H locs h hP hS => ?_)
            refine lv_istore (lv' := [(8, .int r25), (7, .int 1), (0, .ref (ad (20, 0))), (1, .int x1), (2, .int x2), (3, .int x3), (4, .int x4), (5, .long x5)]) hx hb dX5_ask_69 hl (by decide) rfl (fun ls hl => ?_)
            refine lv_aload_n hx hb dX5_ask_71 rfl (lv_at hl 2 rfl) ?_
            refine x_get (C := RX5) (T := TX5) (N := 25) (ci := 5) (a := 20) (k := 0) (v := .ref (ad (21, 0))) hx hb hts iw_X5_ask_X5 hown hK hP (in1m hC (a := 20) (by decide) (by decide)) rfl rfl 1 (by decide) (hts (.fieldLink RX5 7 "PageOwnersModel" "access" "[I") (by decide +kernel)) (fun _ h9 => h9) rfl dX5_ask_72 ?_
            refine lv_iload hx hb dX5_ask_75 (lv_at hl 0 rfl) ?_
            have hin27 := h.1
            have h := h.2
            refine x_iald (a := 21) (k := 0) (n := 48) hx hb hK hP (in1m hC (a := 21) (by decide) (by decide)) (fun _ => rfl) hin27 dX5_ask_77 ?_
            refine lv_iload hx hb dX5_ask_78 (lv_at hl 6 rfl) ?_
            refine lv_if_eq (tgt := 87) hx hb dX5_ask_80 (by decide) (fun c28 => ?_) (fun c28 => ?_)
            · have h := h.1 c28
              refine lv_iconst (v := 1) hx hb dX5_ask_87 (by decide) ?_
              refine lv_icmp_lt (tgt := 109) hx hb dX5_ask_88 (by decide) (fun c29 => ?_) (fun c29 => ?_)
              · have h := h.1 c29
                refine lv_iload hx hb dX5_ask_109 (lv_at hl 6 rfl) ?_
                refine lv_if_eq (tgt := 147) hx hb dX5_ask_111 (by decide) (fun c30 => ?_) (fun c30 => absurd c28 c30)
                refine lv_aload_n hx hb dX5_ask_147 rfl (lv_at hl 2 rfl) ?_
                refine x_get (C := RX5) (T := TX5) (N := 25) (ci := 5) (a := 20) (k := 0) (v := .ref (ad (28, 0))) hx hb hts iw_X5_ask_X5 hown hK hP (in1m hC (a := 20) (by decide) (by decide)) rfl rfl 8 (by decide) (hts (.fieldLink RX5 33 "PageOwnersModel" "waits" "[I") (by decide +kernel)) (fun _ h9 => h9) rfl dX5_ask_148 ?_
                refine lv_iload_n hx hb dX5_ask_151 rfl (lv_at hl 3 rfl) ?_
                refine lv_iload hx hb dX5_ask_152 (lv_at hl 6 rfl) ?_
                refine lv_if_eq (tgt := 161) hx hb dX5_ask_154 (by decide) (fun c31 => ?_) (fun c31 => absurd c28 c31)
                refine lv_iconst (v := 1) hx hb dX5_ask_161 (by decide) ?_
                have hin34 := h.1
                have h := h.2
                refine x_iast (a := 28) (k := 0) (n := 6) hx hb hK hP hAd hS (in1m hC (a := 28) (by decide) (by decide)) (fun _ => rfl) hin34 dX5_ask_162 (fun H locs hP hS => ?_)
                obtain ⟨σ32, e33⟩ : ∃ z, z = sI σ24 28 0 (ix x1) 1 := ⟨_, rfl⟩
                rw [← e33] at hP
                have h := h σ32 e33
                refine lv_aload_n hx hb dX5_ask_163 rfl (lv_at hl 2 rfl) ?_
                refine lv_iload hx hb dX5_ask_164 (lv_at hl 6 rfl) ?_
                refine lv_if_eq (tgt := 173) hx hb dX5_ask_166 (by decide) (fun c35 => ?_) (fun c35 => absurd c28 c35)
                refine lv_iconst (v := 1) hx hb dX5_ask_173 (by decide) ?_
                refine lv_iload_n hx hb dX5_ask_174 rfl (lv_at hl 3 rfl) ?_
                refine lv_aload_n hx hb dX5_ask_175 rfl (lv_at hl 2 rfl) ?_
                refine x_get (C := RX5) (T := TX5) (N := 25) (ci := 5) (a := 20) (k := 0) (v := .ref (ad (23, 0))) hx hb hts iw_X5_ask_X5 hown hK hP (in1m hC (a := 20) (by decide) (by decide)) rfl rfl 3 (by decide) (hts (.fieldLink RX5 17 "PageOwnersModel" "guess" "[I") (by decide +kernel)) (fun _ h9 => h9) rfl dX5_ask_176 ?_
                refine lv_iload hx hb dX5_ask_179 (lv_at hl 0 rfl) ?_
                have hin36 := h.1
                have h := h.2
                refine x_iald (a := 23) (k := 0) (n := 48) hx hb hK hP (in1m hC (a := 23) (by decide) (by decide)) (fun _ => rfl) hin36 dX5_ask_181 ?_
                refine lv_iload_n hx hb dX5_ask_182 rfl (lv_at hl 4 rfl) ?_
                refine lv_iload_n hx hb dX5_ask_183 rfl (lv_at hl 3 rfl) ?_
                refine lv_iconst (v := 0) hx hb dX5_ask_184 (by decide) ?_
                refine x_cVv (C := RX5) (As := [.int 1, .int x1, .int (σ32.1 23 0 (ix r25)), .int x2, .int x1, .int 0]) (rest := []) ⟨hx, hb, hml, hown, hts⟩ hK hP hS (c_X5_send l hAd hC σ32 1 x1 (σ32.1 23 0 (ix r25)) x2 x1 0 _ h) (cwV 6 hts gX5_ask_X5_send rfl rfl rfl (by decide +kernel) ⟨Nat.le_of_ble_eq_true rfl, Nat.le_of_ble_eq_true rfl⟩) (x_recv hK hP (in1m hC (a := 20) (by decide) (by decide)) rfl rfl) rfl hl.1 rfl (Nat.le_of_ble_eq_true rfl) dX5_ask_185 ⟨Nat.zero_le _, Nat.zero_le _⟩ (fun σ37 H locs h hP hS => ?_)
                refine lv_iconst (v := 0) hx hb dX5_ask_188 (by decide) ?_
                exact W.iret (v := 0) hx hb hr (fun t ht hW => ⟨⟨0, σ37, rfl, h, by rw [ht]; exact hP, va_K.moved hW.alike hK⟩, hS.F ht⟩) hS.2.2 dX5_ask_189
              · have h := h.2 c29
                refine lv_aload_n hx hb dX5_ask_91 rfl (lv_at hl 2 rfl) ?_
                refine lv_iload_n hx hb dX5_ask_92 rfl (lv_at hl 3 rfl) ?_
                refine x_cVv (C := RX5) (As := [.int x1]) (rest := []) ⟨hx, hb, hml, hown, hts⟩ hK hP hS (c_X5_finish l hAd hC σ24 x1 _ h) (cwV 1 hts gX5_ask_X5_finish rfl rfl rfl (by decide +kernel) ⟨Nat.le_of_ble_eq_true rfl, Nat.le_of_ble_eq_true rfl⟩) (x_recv hK hP (in1m hC (a := 20) (by decide) (by decide)) rfl rfl) rfl hl.1 rfl (Nat.le_of_ble_eq_true rfl) dX5_ask_93 ⟨Nat.zero_le _, Nat.zero_le _⟩ (fun σ40 H locs h hP hS => ?_)
                refine lv_aload_n hx hb dX5_ask_96 rfl (lv_at hl 2 rfl) ?_
                refine x_get (C := RX5) (T := TX5) (N := 25) (ci := 5) (a := 20) (k := 0) (v := .ref (ad (41, 0))) hx hb hts iw_X5_ask_X5 hown hK hP (in1m hC (a := 20) (by decide) (by decide)) rfl rfl 21 (by decide) (hts (.fieldLink RX5 69 "PageOwnersModel" "counts" "[I") (by decide +kernel)) (fun _ h9 => h9) rfl dX5_ask_97 ?_
                refine lv_bipush (v := 7) hx hb dX5_ask_100 (by decide) ?_
                refine lv_dup2_11 hx hb dX5_ask_102 rfl rfl ?_
                refine x_iald (a := 41) (k := 0) (n := 8) hx hb hK hP (in1m hC (a := 41) (by decide) (by decide)) (fun _ => rfl) (by unfold vp_in; decide) dX5_ask_103 ?_
                refine lv_iconst (v := 1) hx hb dX5_ask_104 (by decide) ?_
                refine lv_iadd hx hb dX5_ask_105 ?_
                refine x_iast (a := 41) (k := 0) (n := 8) hx hb hK hP hAd hS (in1m hC (a := 41) (by decide) (by decide)) (fun _ => rfl) (by unfold vp_in; decide) dX5_ask_106 (fun H locs hP hS => ?_)
                obtain ⟨σ43, e44⟩ : ∃ z, z = sI σ40 41 0 (ix 7) ((σ40.1 41 0 (ix 7)) + 1) := ⟨_, rfl⟩
                rw [← e44] at hP
                have h := h σ43 e44
                refine lv_iconst (v := 1) hx hb dX5_ask_107 (by decide) ?_
                exact W.iret (v := 1) hx hb hr (fun t ht hW => ⟨⟨1, σ43, rfl, h, by rw [ht]; exact hP, va_K.moved hW.alike hK⟩, hS.F ht⟩) hS.2.2 dX5_ask_108
            · have h := h.2 c28
              refine lv_iconst (v := 2) hx hb dX5_ask_83 (by decide) ?_
              refine lv_goto (tgt := 88) hx hb dX5_ask_84 (by decide) ?_
              refine lv_icmp_lt (tgt := 109) hx hb dX5_ask_88 (by decide) (fun c45 => ?_) (fun c45 => ?_)
              · have h := h.1 c45
                refine lv_iload hx hb dX5_ask_109 (lv_at hl 6 rfl) ?_
                refine lv_if_eq (tgt := 147) hx hb dX5_ask_111 (by decide) (fun c46 => absurd c46 c28) (fun c46 => ?_)
                refine lv_aload_n hx hb dX5_ask_114 rfl (lv_at hl 2 rfl) ?_
                refine x_get (C := RX5) (T := TX5) (N := 25) (ci := 5) (a := 20) (k := 0) (v := .ref (ad (22, 0))) hx hb hts iw_X5_ask_X5 hown hK hP (in1m hC (a := 20) (by decide) (by decide)) rfl rfl 2 (by decide) (hts (.fieldLink RX5 13 "PageOwnersModel" "isOwner" "[Z") (by decide +kernel)) (fun _ h9 => h9) rfl dX5_ask_115 ?_
                refine lv_iload hx hb dX5_ask_118 (lv_at hl 0 rfl) ?_
                have hin47 := h.1
                have h := h.2
                refine x_zald (a := 22) (k := 0) (n := 48) hx hb hK hP (in1m hC (a := 22) (by decide) (by decide)) (fun _ => rfl) hin47 dX5_ask_120 ?_
                refine lv_if_eq (tgt := 147) hx hb dX5_ask_121 (by decide) (fun c48 => ?_) (fun c48 => ?_)
                · have h := h.1 c48
                  refine lv_aload_n hx hb dX5_ask_147 rfl (lv_at hl 2 rfl) ?_
                  refine x_get (C := RX5) (T := TX5) (N := 25) (ci := 5) (a := 20) (k := 0) (v := .ref (ad (28, 0))) hx hb hts iw_X5_ask_X5 hown hK hP (in1m hC (a := 20) (by decide) (by decide)) rfl rfl 8 (by decide) (hts (.fieldLink RX5 33 "PageOwnersModel" "waits" "[I") (by decide +kernel)) (fun _ h9 => h9) rfl dX5_ask_148 ?_
                  refine lv_iload_n hx hb dX5_ask_151 rfl (lv_at hl 3 rfl) ?_
                  refine lv_iload hx hb dX5_ask_152 (lv_at hl 6 rfl) ?_
                  refine lv_if_eq (tgt := 161) hx hb dX5_ask_154 (by decide) (fun c49 => absurd c49 c28) (fun c49 => ?_)
                  refine lv_iconst (v := 2) hx hb dX5_ask_157 (by decide) ?_
                  refine lv_goto (tgt := 162) hx hb dX5_ask_158 (by decide) ?_
                  have hin52 := h.1
                  have h := h.2
                  refine x_iast (a := 28) (k := 0) (n := 6) hx hb hK hP hAd hS (in1m hC (a := 28) (by decide) (by decide)) (fun _ => rfl) hin52 dX5_ask_162 (fun H locs hP hS => ?_)
                  obtain ⟨σ50, e51⟩ : ∃ z, z = sI σ24 28 0 (ix x1) 2 := ⟨_, rfl⟩
                  rw [← e51] at hP
                  have h := h σ50 e51
                  refine lv_aload_n hx hb dX5_ask_163 rfl (lv_at hl 2 rfl) ?_
                  refine lv_iload hx hb dX5_ask_164 (lv_at hl 6 rfl) ?_
                  refine lv_if_eq (tgt := 173) hx hb dX5_ask_166 (by decide) (fun c53 => absurd c53 c28) (fun c53 => ?_)
                  refine lv_iconst (v := 2) hx hb dX5_ask_169 (by decide) ?_
                  refine lv_goto (tgt := 174) hx hb dX5_ask_170 (by decide) ?_
                  refine lv_iload_n hx hb dX5_ask_174 rfl (lv_at hl 3 rfl) ?_
                  refine lv_aload_n hx hb dX5_ask_175 rfl (lv_at hl 2 rfl) ?_
                  refine x_get (C := RX5) (T := TX5) (N := 25) (ci := 5) (a := 20) (k := 0) (v := .ref (ad (23, 0))) hx hb hts iw_X5_ask_X5 hown hK hP (in1m hC (a := 20) (by decide) (by decide)) rfl rfl 3 (by decide) (hts (.fieldLink RX5 17 "PageOwnersModel" "guess" "[I") (by decide +kernel)) (fun _ h9 => h9) rfl dX5_ask_176 ?_
                  refine lv_iload hx hb dX5_ask_179 (lv_at hl 0 rfl) ?_
                  have hin54 := h.1
                  have h := h.2
                  refine x_iald (a := 23) (k := 0) (n := 48) hx hb hK hP (in1m hC (a := 23) (by decide) (by decide)) (fun _ => rfl) hin54 dX5_ask_181 ?_
                  refine lv_iload_n hx hb dX5_ask_182 rfl (lv_at hl 4 rfl) ?_
                  refine lv_iload_n hx hb dX5_ask_183 rfl (lv_at hl 3 rfl) ?_
                  refine lv_iconst (v := 0) hx hb dX5_ask_184 (by decide) ?_
                  refine x_cVv (C := RX5) (As := [.int 2, .int x1, .int (σ50.1 23 0 (ix r25)), .int x2, .int x1, .int 0]) (rest := []) ⟨hx, hb, hml, hown, hts⟩ hK hP hS (c_X5_send l hAd hC σ50 2 x1 (σ50.1 23 0 (ix r25)) x2 x1 0 _ h) (cwV 6 hts gX5_ask_X5_send rfl rfl rfl (by decide +kernel) ⟨Nat.le_of_ble_eq_true rfl, Nat.le_of_ble_eq_true rfl⟩) (x_recv hK hP (in1m hC (a := 20) (by decide) (by decide)) rfl rfl) rfl hl.1 rfl (Nat.le_of_ble_eq_true rfl) dX5_ask_185 ⟨Nat.zero_le _, Nat.zero_le _⟩ (fun σ55 H locs h hP hS => ?_)
                  refine lv_iconst (v := 0) hx hb dX5_ask_188 (by decide) ?_
                  exact W.iret (v := 0) hx hb hr (fun t ht hW => ⟨⟨0, σ55, rfl, h, by rw [ht]; exact hP, va_K.moved hW.alike hK⟩, hS.F ht⟩) hS.2.2 dX5_ask_189
                · have h := h.2 c48
                  refine lv_aload_n hx hb dX5_ask_124 rfl (lv_at hl 2 rfl) ?_
                  refine lv_iload_n hx hb dX5_ask_125 rfl (lv_at hl 3 rfl) ?_
                  refine x_cVi (C := RX5) (As := [.int x1]) (rest := []) ⟨hx, hb, hml, hown, hts⟩ hK hP hS (c_X5_callBack l hAd hC σ24 x1 _ h) (cwV 1 hts gX5_ask_X5_callBack rfl rfl rfl (by decide +kernel) ⟨Nat.le_of_ble_eq_true rfl, Nat.le_of_ble_eq_true rfl⟩) (x_recv hK hP (in1m hC (a := 20) (by decide) (by decide)) rfl rfl) rfl hl.1 rfl (Nat.le_of_ble_eq_true rfl) dX5_ask_126 ⟨Nat.zero_le _, Nat.zero_le _⟩ (fun r59 σ58 H locs h hP hS => ?_)
                  refine lv_if_eq (tgt := 145) hx hb dX5_ask_129 (by decide) (fun c61 => ?_) (fun c61 => ?_)
                  · have h := h.1 c61
                    refine lv_iconst (v := 0) hx hb dX5_ask_145 (by decide) ?_
                    exact W.iret (v := 0) hx hb hr (fun t ht hW => ⟨⟨0, σ58, rfl, h, by rw [ht]; exact hP, va_K.moved hW.alike hK⟩, hS.F ht⟩) hS.2.2 dX5_ask_146
                  · have h := h.2 c61
                    refine lv_aload_n hx hb dX5_ask_132 rfl (lv_at hl 2 rfl) ?_
                    refine x_get (C := RX5) (T := TX5) (N := 25) (ci := 5) (a := 20) (k := 0) (v := .ref (ad (41, 0))) hx hb hts iw_X5_ask_X5 hown hK hP (in1m hC (a := 20) (by decide) (by decide)) rfl rfl 21 (by decide) (hts (.fieldLink RX5 69 "PageOwnersModel" "counts" "[I") (by decide +kernel)) (fun _ h9 => h9) rfl dX5_ask_133 ?_
                    refine lv_bipush (v := 7) hx hb dX5_ask_136 (by decide) ?_
                    refine lv_dup2_11 hx hb dX5_ask_138 rfl rfl ?_
                    refine x_iald (a := 41) (k := 0) (n := 8) hx hb hK hP (in1m hC (a := 41) (by decide) (by decide)) (fun _ => rfl) (by unfold vp_in; decide) dX5_ask_139 ?_
                    refine lv_iconst (v := 1) hx hb dX5_ask_140 (by decide) ?_
                    refine lv_iadd hx hb dX5_ask_141 ?_
                    refine x_iast (a := 41) (k := 0) (n := 8) hx hb hK hP hAd hS (in1m hC (a := 41) (by decide) (by decide)) (fun _ => rfl) (by unfold vp_in; decide) dX5_ask_142 (fun H locs hP hS => ?_)
                    obtain ⟨σ62, e63⟩ : ∃ z, z = sI σ58 41 0 (ix 7) ((σ58.1 41 0 (ix 7)) + 1) := ⟨_, rfl⟩
                    rw [← e63] at hP
                    have h := h σ62 e63
                    refine lv_iconst (v := 1) hx hb dX5_ask_143 (by decide) ?_
                    exact W.iret (v := 1) hx hb hr (fun t ht hW => ⟨⟨1, σ62, rfl, h, by rw [ht]; exact hP, va_K.moved hW.alike hK⟩, hS.F ht⟩) hS.2.2 dX5_ask_144
              · have h := h.2 c45
                refine lv_aload_n hx hb dX5_ask_91 rfl (lv_at hl 2 rfl) ?_
                refine lv_iload_n hx hb dX5_ask_92 rfl (lv_at hl 3 rfl) ?_
                refine x_cVv (C := RX5) (As := [.int x1]) (rest := []) ⟨hx, hb, hml, hown, hts⟩ hK hP hS (c_X5_finish l hAd hC σ24 x1 _ h) (cwV 1 hts gX5_ask_X5_finish rfl rfl rfl (by decide +kernel) ⟨Nat.le_of_ble_eq_true rfl, Nat.le_of_ble_eq_true rfl⟩) (x_recv hK hP (in1m hC (a := 20) (by decide) (by decide)) rfl rfl) rfl hl.1 rfl (Nat.le_of_ble_eq_true rfl) dX5_ask_93 ⟨Nat.zero_le _, Nat.zero_le _⟩ (fun σ64 H locs h hP hS => ?_)
                refine lv_aload_n hx hb dX5_ask_96 rfl (lv_at hl 2 rfl) ?_
                refine x_get (C := RX5) (T := TX5) (N := 25) (ci := 5) (a := 20) (k := 0) (v := .ref (ad (41, 0))) hx hb hts iw_X5_ask_X5 hown hK hP (in1m hC (a := 20) (by decide) (by decide)) rfl rfl 21 (by decide) (hts (.fieldLink RX5 69 "PageOwnersModel" "counts" "[I") (by decide +kernel)) (fun _ h9 => h9) rfl dX5_ask_97 ?_
                refine lv_bipush (v := 7) hx hb dX5_ask_100 (by decide) ?_
                refine lv_dup2_11 hx hb dX5_ask_102 rfl rfl ?_
                refine x_iald (a := 41) (k := 0) (n := 8) hx hb hK hP (in1m hC (a := 41) (by decide) (by decide)) (fun _ => rfl) (by unfold vp_in; decide) dX5_ask_103 ?_
                refine lv_iconst (v := 1) hx hb dX5_ask_104 (by decide) ?_
                refine lv_iadd hx hb dX5_ask_105 ?_
                refine x_iast (a := 41) (k := 0) (n := 8) hx hb hK hP hAd hS (in1m hC (a := 41) (by decide) (by decide)) (fun _ => rfl) (by unfold vp_in; decide) dX5_ask_106 (fun H locs hP hS => ?_)
                obtain ⟨σ67, e68⟩ : ∃ z, z = sI σ64 41 0 (ix 7) ((σ64.1 41 0 (ix 7)) + 1) := ⟨_, rfl⟩
                rw [← e68] at hP
                have h := h σ67 e68
                refine lv_iconst (v := 1) hx hb dX5_ask_107 (by decide) ?_
                exact W.iret (v := 1) hx hb hr (fun t ht hW => ⟨⟨1, σ67, rfl, h, by rw [ht]; exact hP, va_K.moved hW.alike hK⟩, hS.F ht⟩) hS.2.2 dX5_ask_108
          · have h := h.2 c17
            refine lv_iconst (v := (-1)) hx hb dX5_ask_45 (by decide) ?_
            exact W.iret (v := (-1)) hx hb hr (fun t ht hW => ⟨⟨(-1), σ6, rfl, h, by rw [ht]; exact hP, va_K.moved hW.alike hK⟩, hS.F ht⟩) hS.2.2 dX5_ask_46
def wp_X5_read (σ : Sg) (x1 : Int32) (x2 : Int32) (x3 : Int32) (Q : Sg → Int32 → Prop) : Prop := (wp_X5_ask σ x1 x2 x3 0 0 (fun σ1 r2 => Q σ1 r2))
abbrev rm_X5_read : Room := { frames := 4, cells := 0, slots := 0, locals := 101 }
set_option maxHeartbeats 4000000 in
set_option maxRecDepth 100000 in
theorem c_X5_read (l : Launch) {D : va_G} {P : List (Nat × Nat)} {ad : Nat × Nat → Nat} {cy : Nat → ClassId} (hAd : AdOk P ad) (hC : InM P) (σ : Sg) (x1 : Int32) (x2 : Int32) (x3 : Int32) (Q : Sg → Int32 → Prop) (h : wp_X5_read σ x1 x2 x3 Q) : Met l yX5_read wsX5_read rm_X5_read (xPc D P ad cy σ [.ref (ad (20, 0)), .int x1, .int x2, .int x3]) (va_Qi (fun r σ' => Q σ' r) (xB D P ad cy) (Aof P ad)) 0 0 (Aof P ad) := by
  refine Met.ofW (cc := cX5_read) (maxL := 4) (ret := (some .int)) (by decide +kernel) rfl ?_
  intro p e s m args below meth c s₁ B hml hv
  obtain ⟨rfl, hP, hK⟩ := hv
  have hx := B.exec
  have hb := B.bytes
  have hr := B.returns
  have hts := atoms_spec (ws := wsX5_read) B.pre
  have hown : s.vm.findClass RX5 = some m.cls := findClass_of_methodNamed B.named
  have hlocks := B.notSynchronized
  have hS : va_S (Aof P ad) s.heap s.heap [] := va_S.rf
  have hl := lv_entry ([.ref (ad (20, 0)), .int x1, .int x2, .int x3] : List Value) (n := 4) (Nat.le_of_ble_eq_true rfl)
  rw [lg_entry_eq]
  generalize (lg_sl ([.ref (ad (20, 0)), .int x1, .int x2, .int x3] : List Value) ++ List.replicate (4 - (lg_sl ([.ref (ad (20, 0)), .int x1, .int x2, .int x3] : List Value)).length) Slot.unset).toArray = ls at hl ⊢
  have hl : lv_has ls 4 [(0, .ref (ad (20, 0))), (1, .int x1), (2, .int x2), (3, .int x3)] := hl
  unfold wp_X5_read at h
  refine lv_aload_n hx hb dX5_read_0 rfl (lv_at hl 0 rfl) ?_
  refine lv_iload_n hx hb dX5_read_1 rfl (lv_at hl 1 rfl) ?_
  refine lv_iload_n hx hb dX5_read_2 rfl (lv_at hl 2 rfl) ?_
  refine lv_iload_n hx hb dX5_read_3 rfl (lv_at hl 3 rfl) ?_
  refine lv_iconst (v := 0) hx hb dX5_read_4 (by decide) ?_
  refine lv_lconst (v := 0) hx hb dX5_read_5 (by decide) ?_
  refine x_cVi (C := RX5) (As := [.int x1, .int x2, .int x3, .int 0, .long 0]) (rest := []) ⟨hx, hb, hml, hown, hts⟩ hK hP hS (c_X5_ask l hAd hC σ x1 x2 x3 0 0 _ h) (cwV 5 hts gX5_read_X5_ask rfl rfl rfl (by decide +kernel) ⟨Nat.le_of_ble_eq_true rfl, Nat.le_of_ble_eq_true rfl⟩) (x_recv hK hP (in1m hC (a := 20) (by decide) (by decide)) rfl rfl) rfl hl.1 rfl (Nat.le_of_ble_eq_true rfl) dX5_read_6 ⟨Nat.zero_le _, Nat.zero_le _⟩ (fun r2 σ1 H locs h hP hS => ?_)
  exact W.iret (v := r2) hx hb hr (fun t ht hW => ⟨⟨r2, σ1, rfl, h, by rw [ht]; exact hP, va_K.moved hW.alike hK⟩, hS.F ht⟩) hS.2.2 dX5_read_9
def wp_X5_write (σ : Sg) (x1 : Int32) (x2 : Int32) (x3 : Int32) (x4 : Int64) (Q : Sg → Int32 → Prop) : Prop := (wp_X5_ask σ x1 x2 x3 1 x4 (fun σ1 r2 => Q σ1 r2))
abbrev rm_X5_write : Room := { frames := 4, cells := 0, slots := 0, locals := 101 }
set_option maxHeartbeats 4000000 in
set_option maxRecDepth 100000 in
theorem c_X5_write (l : Launch) {D : va_G} {P : List (Nat × Nat)} {ad : Nat × Nat → Nat} {cy : Nat → ClassId} (hAd : AdOk P ad) (hC : InM P) (σ : Sg) (x1 : Int32) (x2 : Int32) (x3 : Int32) (x4 : Int64) (Q : Sg → Int32 → Prop) (h : wp_X5_write σ x1 x2 x3 x4 Q) : Met l yX5_write wsX5_write rm_X5_write (xPc D P ad cy σ [.ref (ad (20, 0)), .int x1, .int x2, .int x3, .long x4]) (va_Qi (fun r σ' => Q σ' r) (xB D P ad cy) (Aof P ad)) 0 0 (Aof P ad) := by
  refine Met.ofW (cc := cX5_write) (maxL := 6) (ret := (some .int)) (by decide +kernel) rfl ?_
  intro p e s m args below meth c s₁ B hml hv
  obtain ⟨rfl, hP, hK⟩ := hv
  have hx := B.exec
  have hb := B.bytes
  have hr := B.returns
  have hts := atoms_spec (ws := wsX5_write) B.pre
  have hown : s.vm.findClass RX5 = some m.cls := findClass_of_methodNamed B.named
  have hlocks := B.notSynchronized
  have hS : va_S (Aof P ad) s.heap s.heap [] := va_S.rf
  have hl := lv_entry ([.ref (ad (20, 0)), .int x1, .int x2, .int x3, .long x4] : List Value) (n := 6) (Nat.le_of_ble_eq_true rfl)
  rw [lg_entry_eq]
  generalize (lg_sl ([.ref (ad (20, 0)), .int x1, .int x2, .int x3, .long x4] : List Value) ++ List.replicate (6 - (lg_sl ([.ref (ad (20, 0)), .int x1, .int x2, .int x3, .long x4] : List Value)).length) Slot.unset).toArray = ls at hl ⊢
  have hl : lv_has ls 6 [(0, .ref (ad (20, 0))), (1, .int x1), (2, .int x2), (3, .int x3), (4, .long x4)] := hl
  unfold wp_X5_write at h
  refine lv_aload_n hx hb dX5_write_0 rfl (lv_at hl 0 rfl) ?_
  refine lv_iload_n hx hb dX5_write_1 rfl (lv_at hl 1 rfl) ?_
  refine lv_iload_n hx hb dX5_write_2 rfl (lv_at hl 2 rfl) ?_
  refine lv_iload_n hx hb dX5_write_3 rfl (lv_at hl 3 rfl) ?_
  refine lv_iconst (v := 1) hx hb dX5_write_4 (by decide) ?_
  refine lv_lload hx hb dX5_write_5 (lv_at hl 4 rfl) ?_
  refine x_cVi (C := RX5) (As := [.int x1, .int x2, .int x3, .int 1, .long x4]) (rest := []) ⟨hx, hb, hml, hown, hts⟩ hK hP hS (c_X5_ask l hAd hC σ x1 x2 x3 1 x4 _ h) (cwV 5 hts gX5_write_X5_ask rfl rfl rfl (by decide +kernel) ⟨Nat.le_of_ble_eq_true rfl, Nat.le_of_ble_eq_true rfl⟩) (x_recv hK hP (in1m hC (a := 20) (by decide) (by decide)) rfl rfl) rfl hl.1 rfl (Nat.le_of_ble_eq_true rfl) dX5_write_7 ⟨Nat.zero_le _, Nat.zero_le _⟩ (fun r2 σ1 H locs h hP hS => ?_)
  exact W.iret (v := r2) hx hb hr (fun t ht hW => ⟨⟨r2, σ1, rfl, h, by rw [ht]; exact hP, va_K.moved hW.alike hK⟩, hS.F ht⟩) hS.2.2 dX5_write_10
