theorem iw_X5_asked_X5 : ∀ w ∈ wsX50, w ∈ wsX5_asked := fun _ h => List.mem_cons_of_mem _ (List.mem_append_right _ h)
def wp_X5_asked (σ : Sg) (x1 : Int32) (x2 : Int32) (x3 : Int32) (x4 : Int32) (Q : Sg → Prop) : Prop := (wp_X5_place σ x1 x2 (fun σ1 r2 => (vp_in x1 6 ∧ (((σ1.1 28 0 (ix x1)) < 2 → (vp_in r2 48 ∧ (((σ1.1 22 0 (ix r2)) = 0 → (∀ σ8, σ8 = sI σ1 41 0 (ix 2) ((σ1.1 41 0 (ix 2)) + 1) → (vp_in r2 48 ∧ (wp_X5_send σ8 x3 x1 (σ8.1 23 0 (ix r2)) x2 x4 0 (fun σ11 => ((x3 = 2 → (vp_in r2 48 ∧ (∀ σ15, σ15 = sI σ11 23 0 (ix r2) x4 → Q σ15))) ∧ (¬ (x3 = 2) → (vp_in r2 48 ∧ (vp_in r2 48 ∧ (∀ σ19, σ19 = sI σ11 23 0 (ix r2) (σ11.1 23 0 (ix r2)) → Q σ19)))))))))) ∧ (¬ ((σ1.1 22 0 (ix r2)) = 0) → ((x3 = 1 → (vp_in r2 48 ∧ (vp_in r2 48 ∧ (∀ σ24, σ24 = sI σ1 24 0 (ix r2) ((σ1.1 24 0 (ix r2)) ||| (1 <<< (x4 &&& 31))) → (vp_in r2 48 ∧ (∀ σ27, σ27 = sI σ24 21 0 (ix r2) 1 → (∀ σ30, σ30 = sI σ27 41 0 (ix 3) ((σ27.1 41 0 (ix 3)) + 1) → (wp_X5_send σ30 3 x1 x4 x2 (-1) 0 (fun σ32 => Q σ32))))))))) ∧ (¬ (x3 = 1) → (∀ σ35, σ35 = sI σ1 41 0 (ix 4) ((σ1.1 41 0 (ix 4)) + 1) → (vp_in r2 48 ∧ (wp_X5_send σ35 4 x1 x4 x2 (-1) (σ35.1 24 0 (ix r2)) (fun σ38 => (vp_in r2 48 ∧ (∀ σ41, σ41 = sI σ38 22 0 (ix r2) 0 → (vp_in r2 48 ∧ (∀ σ44, σ44 = sI σ41 24 0 (ix r2) 0 → (vp_in r2 48 ∧ (∀ σ47, σ47 = sI σ44 21 0 (ix r2) 0 → (vp_in r2 48 ∧ (∀ σ50, σ50 = sI σ47 23 0 (ix r2) x4 → Q σ50)))))))))))))))))) ∧ (¬ ((σ1.1 28 0 (ix x1)) < 2) → (vp_in x1 6 ∧ (((σ1.1 29 0 (ix x1)) = x2 → (vp_in r2 48 ∧ (vp_in ((20 * r2) + (2 * (σ1.1 27 0 (ix r2)))) 960 ∧ (∀ σ56, σ56 = sI σ1 26 0 (ix ((20 * r2) + (2 * (σ1.1 27 0 (ix r2))))) x3 → (vp_in r2 48 ∧ (vp_in (((20 * r2) + (2 * (σ56.1 27 0 (ix r2)))) + 1) 960 ∧ (∀ σ60, σ60 = sI σ56 26 0 (ix (((20 * r2) + (2 * (σ56.1 27 0 (ix r2)))) + 1)) x4 → (vp_in r2 48 ∧ (vp_in r2 48 ∧ (∀ σ64, σ64 = sI σ60 27 0 (ix r2) ((σ60.1 27 0 (ix r2)) + 1) → Q σ64)))))))))) ∧ (¬ ((σ1.1 29 0 (ix x1)) = x2) → (vp_in r2 48 ∧ (((σ1.1 22 0 (ix r2)) = 0 → (∀ σ69, σ69 = sI σ1 41 0 (ix 2) ((σ1.1 41 0 (ix 2)) + 1) → (vp_in r2 48 ∧ (wp_X5_send σ69 x3 x1 (σ69.1 23 0 (ix r2)) x2 x4 0 (fun σ72 => ((x3 = 2 → (vp_in r2 48 ∧ (∀ σ76, σ76 = sI σ72 23 0 (ix r2) x4 → Q σ76))) ∧ (¬ (x3 = 2) → (vp_in r2 48 ∧ (vp_in r2 48 ∧ (∀ σ80, σ80 = sI σ72 23 0 (ix r2) (σ72.1 23 0 (ix r2)) → Q σ80)))))))))) ∧ (¬ ((σ1.1 22 0 (ix r2)) = 0) → ((x3 = 1 → (vp_in r2 48 ∧ (vp_in r2 48 ∧ (∀ σ85, σ85 = sI σ1 24 0 (ix r2) ((σ1.1 24 0 (ix r2)) ||| (1 <<< (x4 &&& 31))) → (vp_in r2 48 ∧ (∀ σ88, σ88 = sI σ85 21 0 (ix r2) 1 → (∀ σ91, σ91 = sI σ88 41 0 (ix 3) ((σ88.1 41 0 (ix 3)) + 1) → (wp_X5_send σ91 3 x1 x4 x2 (-1) 0 (fun σ93 => Q σ93))))))))) ∧ (¬ (x3 = 1) → (∀ σ96, σ96 = sI σ1 41 0 (ix 4) ((σ1.1 41 0 (ix 4)) + 1) → (vp_in r2 48 ∧ (wp_X5_send σ96 4 x1 x4 x2 (-1) (σ96.1 24 0 (ix r2)) (fun σ99 => (vp_in r2 48 ∧ (∀ σ102, σ102 = sI σ99 22 0 (ix r2) 0 → (vp_in r2 48 ∧ (∀ σ105, σ105 = sI σ102 24 0 (ix r2) 0 → (vp_in r2 48 ∧ (∀ σ108, σ108 = sI σ105 21 0 (ix r2) 0 → (vp_in r2 48 ∧ (∀ σ111, σ111 = sI σ108 23 0 (ix r2) x4 → Q σ111)))))))))))))))))))))))))
abbrev rm_X5_asked : Room := { frames := 2, cells := 0, slots := 0, locals := 49 }
set_option maxHeartbeats 4000000 in
set_option maxRecDepth 100000 in
theorem c_X5_asked (l : Launch) {D : va_G} {P : List (Nat × Nat)} {ad : Nat × Nat → Nat} {cy : Nat → ClassId} (hAd : AdOk P ad) (hC : InM P) (σ : Sg) (x1 : Int32) (x2 : Int32) (x3 : Int32) (x4 : Int32) (Q : Sg → Prop) (h : wp_X5_asked σ x1 x2 x3 x4 Q) : Met l yX5_asked wsX5_asked rm_X5_asked (xPc D P ad cy σ [.ref (ad (20, 0)), .int x1, .int x2, .int x3, .int x4]) (va_Qv Q (xB D P ad cy) (Aof P ad)) 0 0 (Aof P ad) := by
  refine Met.ofW (cc := cX5_asked) (maxL := 6) (ret := none) (by decide +kernel) rfl ?_
  intro p e s m args below meth c s₁ B hml hv
  obtain ⟨rfl, hP, hK⟩ := hv
  have hx := B.exec
  have hb := B.bytes
  have hr := B.returns
  have hts := atoms_spec (ws := wsX5_asked) B.pre
  have hown : s.vm.findClass RX5 = some m.cls := findClass_of_methodNamed B.named
  have hlocks := B.notSynchronized
  have hS : va_S (Aof P ad) s.heap s.heap [] := va_S.rf
  have hl := lv_entry ([.ref (ad (20, 0)), .int x1, .int x2, .int x3, .int x4] : List Value) (n := 6) (Nat.le_of_ble_eq_true rfl)
  rw [lg_entry_eq]
  generalize (lg_sl ([.ref (ad (20, 0)), .int x1, .int x2, .int x3, .int x4] : List Value) ++ List.replicate (6 - (lg_sl ([.ref (ad (20, 0)), .int x1, .int x2, .int x3, .int x4] : List Value)).length) Slot.unset).toArray = ls at hl ⊢
  have hl : lv_has ls 6 [(0, .ref (ad (20, 0))), (1, .int x1), (2, .int x2), (3, .int x3), (4, .int x4)] := hl
  unfold wp_X5_asked at h
  refine lv_iload_n hx hb dX5_asked_0 rfl (lv_at hl 1 rfl) ?_
  refine lv_iload_n hx hb dX5_asked_1 rfl (lv_at hl 2 rfl) ?_
  refine x_cSi (As := [.int x1, .int x2]) (rest := []) ⟨hx, hb, hml, hown, hts⟩ hK hP hS (c_X5_place l hAd hC σ x1 x2 _ h) (va_cwS 2 hts gX5_asked_X5_place rfl rfl rfl (by decide +kernel) ⟨Nat.le_of_ble_eq_true rfl, Nat.le_of_ble_eq_true rfl⟩) rfl hl.1 rfl (Nat.le_of_ble_eq_true rfl) dX5_asked_2 ⟨Nat.zero_le _, Nat.zero_le _⟩ (fun r2 σ1 H locs h hP hS => ?_)
  refine lv_istore (lv' := [(5, .int r2), (0, .ref (ad (20, 0))), (1, .int x1), (2, .int x2), (3, .int x3), (4, .int x4)]) hx hb dX5_asked_5 hl (by decide) rfl (fun ls hl => ?_)
  refine lv_aload_n hx hb dX5_asked_7 rfl (lv_at hl 1 rfl) ?_
  refine x_get (C := RX5) (T := TX5) (N := 25) (ci := 5) (a := 20) (k := 0) (v := .ref (ad (28, 0))) hx hb hts iw_X5_asked_X5 hown hK hP (in1m hC (a := 20) (by decide) (by decide)) rfl rfl 8 (by decide) (hts (.fieldLink RX5 33 "PageOwnersModel" "waits" "[I") (by decide +kernel)) (fun _ h9 => h9) rfl dX5_asked_8 ?_
  refine lv_iload_n hx hb dX5_asked_11 rfl (lv_at hl 2 rfl) ?_
  have hin4 := h.1
  have h := h.2
  refine x_iald (a := 28) (k := 0) (n := 6) hx hb hK hP (in1m hC (a := 28) (by decide) (by decide)) (fun _ => rfl) hin4 dX5_asked_12 ?_
  refine lv_iconst (v := 2) hx hb dX5_asked_13 (by decide) ?_
  refine lv_icmp_lt (tgt := 86) hx hb dX5_asked_14 (by decide) (fun c5 => ?_) (fun c5 => ?_)
  · have h := h.1 c5
    refine lv_aload_n hx hb dX5_asked_86 rfl (lv_at hl 1 rfl) ?_
    refine x_get (C := RX5) (T := TX5) (N := 25) (ci := 5) (a := 20) (k := 0) (v := .ref (ad (22, 0))) hx hb hts iw_X5_asked_X5 hown hK hP (in1m hC (a := 20) (by decide) (by decide)) rfl rfl 2 (by decide) (hts (.fieldLink RX5 13 "PageOwnersModel" "isOwner" "[Z") (by decide +kernel)) (fun _ h9 => h9) rfl dX5_asked_87 ?_
    refine lv_iload hx hb dX5_asked_90 (lv_at hl 0 rfl) ?_
    have hin6 := h.1
    have h := h.2
    refine x_zald (a := 22) (k := 0) (n := 48) hx hb hK hP (in1m hC (a := 22) (by decide) (by decide)) (fun _ => rfl) hin6 dX5_asked_92 ?_
    refine lv_if_ne (tgt := 150) hx hb dX5_asked_93 (by decide) (fun c7 => ?_) (fun c7 => ?_)
    · have h := h.2 c7
      refine lv_iload_n hx hb dX5_asked_150 rfl (lv_at hl 4 rfl) ?_
      refine lv_iconst (v := 1) hx hb dX5_asked_151 (by decide) ?_
      refine lv_icmp_ne (tgt := 201) hx hb dX5_asked_152 (by decide) (fun c22 => ?_) (fun c22 => ?_)
      · have h := h.2 c22
        refine lv_aload_n hx hb dX5_asked_201 rfl (lv_at hl 1 rfl) ?_
        refine x_get (C := RX5) (T := TX5) (N := 25) (ci := 5) (a := 20) (k := 0) (v := .ref (ad (41, 0))) hx hb hts iw_X5_asked_X5 hown hK hP (in1m hC (a := 20) (by decide) (by decide)) rfl rfl 21 (by decide) (hts (.fieldLink RX5 69 "PageOwnersModel" "counts" "[I") (by decide +kernel)) (fun _ h9 => h9) rfl dX5_asked_202 ?_
        refine lv_iconst (v := 4) hx hb dX5_asked_205 (by decide) ?_
        refine lv_dup2_11 hx hb dX5_asked_206 rfl rfl ?_
        refine x_iald (a := 41) (k := 0) (n := 8) hx hb hK hP (in1m hC (a := 41) (by decide) (by decide)) (fun _ => rfl) (by unfold vp_in; decide) dX5_asked_207 ?_
        refine lv_iconst (v := 1) hx hb dX5_asked_208 (by decide) ?_
        refine lv_iadd hx hb dX5_asked_209 ?_
        refine x_iast (a := 41) (k := 0) (n := 8) hx hb hK hP hAd hS (in1m hC (a := 41) (by decide) (by decide)) (fun _ => rfl) (by unfold vp_in; decide) dX5_asked_210 (fun H locs hP hS => ?_)
        obtain ⟨σ35, e36⟩ : ∃ z, z = sI σ1 41 0 (ix 4) ((σ1.1 41 0 (ix 4)) + 1) := ⟨_, rfl⟩
        rw [← e36] at hP
        have h := h σ35 e36
        refine lv_aload_n hx hb dX5_asked_211 rfl (lv_at hl 1 rfl) ?_
        refine lv_iconst (v := 4) hx hb dX5_asked_212 (by decide) ?_
        refine lv_iload_n hx hb dX5_asked_213 rfl (lv_at hl 2 rfl) ?_
        refine lv_iload hx hb dX5_asked_214 (lv_at hl 5 rfl) ?_
        refine lv_iload_n hx hb dX5_asked_216 rfl (lv_at hl 3 rfl) ?_
        refine lv_iconst (v := (-1)) hx hb dX5_asked_217 (by decide) ?_
        refine lv_aload_n hx hb dX5_asked_218 rfl (lv_at hl 1 rfl) ?_
        refine x_get (C := RX5) (T := TX5) (N := 25) (ci := 5) (a := 20) (k := 0) (v := .ref (ad (24, 0))) hx hb hts iw_X5_asked_X5 hown hK hP (in1m hC (a := 20) (by decide) (by decide)) rfl rfl 4 (by decide) (hts (.fieldLink RX5 20 "PageOwnersModel" "copies" "[I") (by decide +kernel)) (fun _ h9 => h9) rfl dX5_asked_219 ?_
        refine lv_iload hx hb dX5_asked_222 (lv_at hl 0 rfl) ?_
        have hin37 := h.1
        have h := h.2
        refine x_iald (a := 24) (k := 0) (n := 48) hx hb hK hP (in1m hC (a := 24) (by decide) (by decide)) (fun _ => rfl) hin37 dX5_asked_224 ?_
        refine x_cVv (C := RX5) (As := [.int 4, .int x1, .int x4, .int x2, .int (-1), .int (σ35.1 24 0 (ix r2))]) (rest := []) ⟨hx, hb, hml, hown, hts⟩ hK hP hS (c_X5_send l hAd hC σ35 4 x1 x4 x2 (-1) (σ35.1 24 0 (ix r2)) _ h) (cwV 6 hts gX5_asked_X5_send rfl rfl rfl (by decide +kernel) ⟨Nat.le_of_ble_eq_true rfl, Nat.le_of_ble_eq_true rfl⟩) (x_recv hK hP (in1m hC (a := 20) (by decide) (by decide)) rfl rfl) rfl hl.1 rfl (Nat.le_of_ble_eq_true rfl) dX5_asked_225 ⟨Nat.zero_le _, Nat.zero_le _⟩ (fun σ38 H locs h hP hS => ?_)
        refine lv_aload_n hx hb dX5_asked_228 rfl (lv_at hl 1 rfl) ?_
        refine x_get (C := RX5) (T := TX5) (N := 25) (ci := 5) (a := 20) (k := 0) (v := .ref (ad (22, 0))) hx hb hts iw_X5_asked_X5 hown hK hP (in1m hC (a := 20) (by decide) (by decide)) rfl rfl 2 (by decide) (hts (.fieldLink RX5 13 "PageOwnersModel" "isOwner" "[Z") (by decide +kernel)) (fun _ h9 => h9) rfl dX5_asked_229 ?_
        refine lv_iload hx hb dX5_asked_232 (lv_at hl 0 rfl) ?_
        refine lv_iconst (v := 0) hx hb dX5_asked_234 (by decide) ?_
        have hin43 := h.1
        have h := h.2
        refine x_zast (a := 22) (k := 0) (n := 48) hx hb hK hP hAd hS (in1m hC (a := 22) (by decide) (by decide)) (fun _ => rfl) hin43 (by decide) dX5_asked_235 (fun H locs hP hS => ?_)
        obtain ⟨σ41, e42⟩ : ∃ z, z = sI σ38 22 0 (ix r2) 0 := ⟨_, rfl⟩
        rw [← e42] at hP
        have h := h σ41 e42
        refine lv_aload_n hx hb dX5_asked_236 rfl (lv_at hl 1 rfl) ?_
        refine x_get (C := RX5) (T := TX5) (N := 25) (ci := 5) (a := 20) (k := 0) (v := .ref (ad (24, 0))) hx hb hts iw_X5_asked_X5 hown hK hP (in1m hC (a := 20) (by decide) (by decide)) rfl rfl 4 (by decide) (hts (.fieldLink RX5 20 "PageOwnersModel" "copies" "[I") (by decide +kernel)) (fun _ h9 => h9) rfl dX5_asked_237 ?_
        refine lv_iload hx hb dX5_asked_240 (lv_at hl 0 rfl) ?_
        refine lv_iconst (v := 0) hx hb dX5_asked_242 (by decide) ?_
        have hin46 := h.1
        have h := h.2
        refine x_iast (a := 24) (k := 0) (n := 48) hx hb hK hP hAd hS (in1m hC (a := 24) (by decide) (by decide)) (fun _ => rfl) hin46 dX5_asked_243 (fun H locs hP hS => ?_)
        obtain ⟨σ44, e45⟩ : ∃ z, z = sI σ41 24 0 (ix r2) 0 := ⟨_, rfl⟩
        rw [← e45] at hP
        have h := h σ44 e45
        refine lv_aload_n hx hb dX5_asked_244 rfl (lv_at hl 1 rfl) ?_
        refine x_get (C := RX5) (T := TX5) (N := 25) (ci := 5) (a := 20) (k := 0) (v := .ref (ad (21, 0))) hx hb hts iw_X5_asked_X5 hown hK hP (in1m hC (a := 20) (by decide) (by decide)) rfl rfl 1 (by decide) (hts (.fieldLink RX5 7 "PageOwnersModel" "access" "[I") (by decide +kernel)) (fun _ h9 => h9) rfl dX5_asked_245 ?_
        refine lv_iload hx hb dX5_asked_248 (lv_at hl 0 rfl) ?_
        refine lv_iconst (v := 0) hx hb dX5_asked_250 (by decide) ?_
        have hin49 := h.1
        have h := h.2
        refine x_iast (a := 21) (k := 0) (n := 48) hx hb hK hP hAd hS (in1m hC (a := 21) (by decide) (by decide)) (fun _ => rfl) hin49 dX5_asked_251 (fun H locs hP hS => ?_)
        obtain ⟨σ47, e48⟩ : ∃ z, z = sI σ44 21 0 (ix r2) 0 := ⟨_, rfl⟩
        rw [← e48] at hP
        have h := h σ47 e48
        refine lv_aload_n hx hb dX5_asked_252 rfl (lv_at hl 1 rfl) ?_
        refine x_get (C := RX5) (T := TX5) (N := 25) (ci := 5) (a := 20) (k := 0) (v := .ref (ad (23, 0))) hx hb hts iw_X5_asked_X5 hown hK hP (in1m hC (a := 20) (by decide) (by decide)) rfl rfl 3 (by decide) (hts (.fieldLink RX5 17 "PageOwnersModel" "guess" "[I") (by decide +kernel)) (fun _ h9 => h9) rfl dX5_asked_253 ?_
        refine lv_iload hx hb dX5_asked_256 (lv_at hl 0 rfl) ?_
        refine lv_iload hx hb dX5_asked_258 (lv_at hl 5 rfl) ?_
        have hin52 := h.1
        have h := h.2
        refine x_iast (a := 23) (k := 0) (n := 48) hx hb hK hP hAd hS (in1m hC (a := 23) (by decide) (by decide)) (fun _ => rfl) hin52 dX5_asked_260 (fun H locs hP hS => ?_)
        obtain ⟨σ50, e51⟩ : ∃ z, z = sI σ47 23 0 (ix r2) x4 := ⟨_, rfl⟩
        rw [← e51] at hP
        have h := h σ50 e51
        exact W.vret hx hb hr (fun t ht hW => ⟨⟨σ50, rfl, h, by rw [ht]; exact hP, va_K.moved hW.alike hK⟩, hS.F ht⟩) hS.2.2 dX5_asked_261
      · have h := h.1 c22
        refine lv_aload_n hx hb dX5_asked_155 rfl (lv_at hl 1 rfl) ?_
        refine x_get (C := RX5) (T := TX5) (N := 25) (ci := 5) (a := 20) (k := 0) (v := .ref (ad (24, 0))) hx hb hts iw_X5_asked_X5 hown hK hP (in1m hC (a := 20) (by decide) (by decide)) rfl rfl 4 (by decide) (hts (.fieldLink RX5 20 "PageOwnersModel" "copies" "[I") (by decide +kernel)) (fun _ h9 => h9) rfl dX5_asked_156 ?_
        refine lv_iload hx hb dX5_asked_159 (lv_at hl 0 rfl) ?_
        refine lv_dup2_11 hx hb dX5_asked_161 rfl rfl ?_
        have hin23 := h.1
        have h := h.2
        refine x_iald (a := 24) (k := 0) (n := 48) hx hb hK hP (in1m hC (a := 24) (by decide) (by decide)) (fun _ => rfl) hin23 dX5_asked_162 ?_
        refine lv_iconst (v := 1) hx hb dX5_asked_163 (by decide) ?_
        refine lv_iload hx hb dX5_asked_164 (lv_at hl 5 rfl) ?_
        refine lv_ishl hx hb dX5_asked_166 ?_
        refine lv_ior hx hb dX5_asked_167 ?_
        have hin26 := h.1
        have h := h.2
        refine x_iast (a := 24) (k := 0) (n := 48) hx hb hK hP hAd hS (in1m hC (a := 24) (by decide) (by decide)) (fun _ => rfl) hin26 dX5_asked_168 (fun H locs hP hS => ?_)
        obtain ⟨σ24, e25⟩ : ∃ z, z = sI σ1 24 0 (ix r2) ((σ1.1 24 0 (ix r2)) ||| (1 <<< (x4 &&& 31))) := ⟨_, rfl⟩
        rw [← e25] at hP
        have h := h σ24 e25
        refine lv_aload_n hx hb dX5_asked_169 rfl (lv_at hl 1 rfl) ?_
        refine x_get (C := RX5) (T := TX5) (N := 25) (ci := 5) (a := 20) (k := 0) (v := .ref (ad (21, 0))) hx hb hts iw_X5_asked_X5 hown hK hP (in1m hC (a := 20) (by decide) (by decide)) rfl rfl 1 (by decide) (hts (.fieldLink RX5 7 "PageOwnersModel" "access" "[I") (by decide +kernel)) (fun _ h9 => h9) rfl dX5_asked_170 ?_
        refine lv_iload hx hb dX5_asked_173 (lv_at hl 0 rfl) ?_
        refine lv_iconst (v := 1) hx hb dX5_asked_175 (by decide) ?_
        have hin29 := h.1
        have h := h.2
        refine x_iast (a := 21) (k := 0) (n := 48) hx hb hK hP hAd hS (in1m hC (a := 21) (by decide) (by decide)) (fun _ => rfl) hin29 dX5_asked_176 (fun H locs hP hS => ?_)
        obtain ⟨σ27, e28⟩ : ∃ z, z = sI σ24 21 0 (ix r2) 1 := ⟨_, rfl⟩
        rw [← e28] at hP
        have h := h σ27 e28
        refine lv_aload_n hx hb dX5_asked_177 rfl (lv_at hl 1 rfl) ?_
        refine x_get (C := RX5) (T := TX5) (N := 25) (ci := 5) (a := 20) (k := 0) (v := .ref (ad (41, 0))) hx hb hts iw_X5_asked_X5 hown hK hP (in1m hC (a := 20) (by decide) (by decide)) rfl rfl 21 (by decide) (hts (.fieldLink RX5 69 "PageOwnersModel" "counts" "[I") (by decide +kernel)) (fun _ h9 => h9) rfl dX5_asked_178 ?_
        refine lv_iconst (v := 3) hx hb dX5_asked_181 (by decide) ?_
        refine lv_dup2_11 hx hb dX5_asked_182 rfl rfl ?_
        refine x_iald (a := 41) (k := 0) (n := 8) hx hb hK hP (in1m hC (a := 41) (by decide) (by decide)) (fun _ => rfl) (by unfold vp_in; decide) dX5_asked_183 ?_
        refine lv_iconst (v := 1) hx hb dX5_asked_184 (by decide) ?_
        refine lv_iadd hx hb dX5_asked_185 ?_
        refine x_iast (a := 41) (k := 0) (n := 8) hx hb hK hP hAd hS (in1m hC (a := 41) (by decide) (by decide)) (fun _ => rfl) (by unfold vp_in; decide) dX5_asked_186 (fun H locs hP hS => ?_)
        obtain ⟨σ30, e31⟩ : ∃ z, z = sI σ27 41 0 (ix 3) ((σ27.1 41 0 (ix 3)) + 1) := ⟨_, rfl⟩
        rw [← e31] at hP
        have h := h σ30 e31
        refine lv_aload_n hx hb dX5_asked_187 rfl (lv_at hl 1 rfl) ?_
        refine lv_iconst (v := 3) hx hb dX5_asked_188 (by decide) ?_
        refine lv_iload_n hx hb dX5_asked_189 rfl (lv_at hl 2 rfl) ?_
        refine lv_iload hx hb dX5_asked_190 (lv_at hl 5 rfl) ?_
        refine lv_iload_n hx hb dX5_asked_192 rfl (lv_at hl 3 rfl) ?_
        refine lv_iconst (v := (-1)) hx hb dX5_asked_193 (by decide) ?_
        refine lv_iconst (v := 0) hx hb dX5_asked_194 (by decide) ?_
        refine x_cVv (C := RX5) (As := [.int 3, .int x1, .int x4, .int x2, .int (-1), .int 0]) (rest := []) ⟨hx, hb, hml, hown, hts⟩ hK hP hS (c_X5_send l hAd hC σ30 3 x1 x4 x2 (-1) 0 _ h) (cwV 6 hts gX5_asked_X5_send rfl rfl rfl (by decide +kernel) ⟨Nat.le_of_ble_eq_true rfl, Nat.le_of_ble_eq_true rfl⟩) (x_recv hK hP (in1m hC (a := 20) (by decide) (by decide)) rfl rfl) rfl hl.1 rfl (Nat.le_of_ble_eq_true rfl) dX5_asked_195 ⟨Nat.zero_le _, Nat.zero_le _⟩ (fun σ32 H locs h hP hS => ?_)
        refine lv_goto (tgt := 261) hx hb dX5_asked_198 (by decide) ?_
        exact W.vret hx hb hr (fun t ht hW => ⟨⟨σ32, rfl, h, by rw [ht]; exact hP, va_K.moved hW.alike hK⟩, hS.F ht⟩) hS.2.2 dX5_asked_261
    · have h := h.1 c7
      refine lv_aload_n hx hb dX5_asked_96 rfl (lv_at hl 1 rfl) ?_
      refine x_get (C := RX5) (T := TX5) (N := 25) (ci := 5) (a := 20) (k := 0) (v := .ref (ad (41, 0))) hx hb hts iw_X5_asked_X5 hown hK hP (in1m hC (a := 20) (by decide) (by decide)) rfl rfl 21 (by decide) (hts (.fieldLink RX5 69 "PageOwnersModel" "counts" "[I") (by decide +kernel)) (fun _ h9 => h9) rfl dX5_asked_97 ?_
      refine lv_iconst (v := 2) hx hb dX5_asked_100 (by decide) ?_
      refine lv_dup2_11 hx hb dX5_asked_101 rfl rfl ?_
      refine x_iald (a := 41) (k := 0) (n := 8) hx hb hK hP (in1m hC (a := 41) (by decide) (by decide)) (fun _ => rfl) (by unfold vp_in; decide) dX5_asked_102 ?_
      refine lv_iconst (v := 1) hx hb dX5_asked_103 (by decide) ?_
      refine lv_iadd hx hb dX5_asked_104 ?_
      refine x_iast (a := 41) (k := 0) (n := 8) hx hb hK hP hAd hS (in1m hC (a := 41) (by decide) (by decide)) (fun _ => rfl) (by unfold vp_in; decide) dX5_asked_105 (fun H locs hP hS => ?_)
      obtain ⟨σ8, e9⟩ : ∃ z, z = sI σ1 41 0 (ix 2) ((σ1.1 41 0 (ix 2)) + 1) := ⟨_, rfl⟩
      rw [← e9] at hP
      have h := h σ8 e9
      refine lv_aload_n hx hb dX5_asked_106 rfl (lv_at hl 1 rfl) ?_
      refine lv_iload_n hx hb dX5_asked_107 rfl (lv_at hl 4 rfl) ?_
      refine lv_iload_n hx hb dX5_asked_108 rfl (lv_at hl 2 rfl) ?_
      refine lv_aload_n hx hb dX5_asked_109 rfl (lv_at hl 1 rfl) ?_
      refine x_get (C := RX5) (T := TX5) (N := 25) (ci := 5) (a := 20) (k := 0) (v := .ref (ad (23, 0))) hx hb hts iw_X5_asked_X5 hown hK hP (in1m hC (a := 20) (by decide) (by decide)) rfl rfl 3 (by decide) (hts (.fieldLink RX5 17 "PageOwnersModel" "guess" "[I") (by decide +kernel)) (fun _ h9 => h9) rfl dX5_asked_110 ?_
      refine lv_iload hx hb dX5_asked_113 (lv_at hl 0 rfl) ?_
      have hin10 := h.1
      have h := h.2
      refine x_iald (a := 23) (k := 0) (n := 48) hx hb hK hP (in1m hC (a := 23) (by decide) (by decide)) (fun _ => rfl) hin10 dX5_asked_115 ?_
      refine lv_iload_n hx hb dX5_asked_116 rfl (lv_at hl 3 rfl) ?_
      refine lv_iload hx hb dX5_asked_117 (lv_at hl 5 rfl) ?_
      refine lv_iconst (v := 0) hx hb dX5_asked_119 (by decide) ?_
      refine x_cVv (C := RX5) (As := [.int x3, .int x1, .int (σ8.1 23 0 (ix r2)), .int x2, .int x4, .int 0]) (rest := []) ⟨hx, hb, hml, hown, hts⟩ hK hP hS (c_X5_send l hAd hC σ8 x3 x1 (σ8.1 23 0 (ix r2)) x2 x4 0 _ h) (cwV 6 hts gX5_asked_X5_send rfl rfl rfl (by decide +kernel) ⟨Nat.le_of_ble_eq_true rfl, Nat.le_of_ble_eq_true rfl⟩) (x_recv hK hP (in1m hC (a := 20) (by decide) (by decide)) rfl rfl) rfl hl.1 rfl (Nat.le_of_ble_eq_true rfl) dX5_asked_120 ⟨Nat.zero_le _, Nat.zero_le _⟩ (fun σ11 H locs h hP hS => ?_)
      refine lv_aload_n hx hb dX5_asked_123 rfl (lv_at hl 1 rfl) ?_
      refine x_get (C := RX5) (T := TX5) (N := 25) (ci := 5) (a := 20) (k := 0) (v := .ref (ad (23, 0))) hx hb hts iw_X5_asked_X5 hown hK hP (in1m hC (a := 20) (by decide) (by decide)) rfl rfl 3 (by decide) (hts (.fieldLink RX5 17 "PageOwnersModel" "guess" "[I") (by decide +kernel)) (fun _ h9 => h9) rfl dX5_asked_124 ?_
      refine lv_iload hx hb dX5_asked_127 (lv_at hl 0 rfl) ?_
      refine lv_iload_n hx hb dX5_asked_129 rfl (lv_at hl 4 rfl) ?_
      refine lv_iconst (v := 2) hx hb dX5_asked_130 (by decide) ?_
      refine lv_icmp_ne (tgt := 139) hx hb dX5_asked_131 (by decide) (fun c14 => ?_) (fun c14 => ?_)
      · have h := h.2 c14
        refine lv_aload_n hx hb dX5_asked_139 rfl (lv_at hl 1 rfl) ?_
        refine x_get (C := RX5) (T := TX5) (N := 25) (ci := 5) (a := 20) (k := 0) (v := .ref (ad (23, 0))) hx hb hts iw_X5_asked_X5 hown hK hP (in1m hC (a := 20) (by decide) (by decide)) rfl rfl 3 (by decide) (hts (.fieldLink RX5 17 "PageOwnersModel" "guess" "[I") (by decide +kernel)) (fun _ h9 => h9) rfl dX5_asked_140 ?_
        refine lv_iload hx hb dX5_asked_143 (lv_at hl 0 rfl) ?_
        have hin18 := h.1
        have h := h.2
        refine x_iald (a := 23) (k := 0) (n := 48) hx hb hK hP (in1m hC (a := 23) (by decide) (by decide)) (fun _ => rfl) hin18 dX5_asked_145 ?_
        have hin21 := h.1
        have h := h.2
        refine x_iast (a := 23) (k := 0) (n := 48) hx hb hK hP hAd hS (in1m hC (a := 23) (by decide) (by decide)) (fun _ => rfl) hin21 dX5_asked_146 (fun H locs hP hS => ?_)
        obtain ⟨σ19, e20⟩ : ∃ z, z = sI σ11 23 0 (ix r2) (σ11.1 23 0 (ix r2)) := ⟨_, rfl⟩
        rw [← e20] at hP
        have h := h σ19 e20
        refine lv_goto (tgt := 261) hx hb dX5_asked_147 (by decide) ?_
        exact W.vret hx hb hr (fun t ht hW => ⟨⟨σ19, rfl, h, by rw [ht]; exact hP, va_K.moved hW.alike hK⟩, hS.F ht⟩) hS.2.2 dX5_asked_261
      · have h := h.1 c14
        refine lv_iload hx hb dX5_asked_134 (lv_at hl 5 rfl) ?_
        refine lv_goto (tgt := 146) hx hb dX5_asked_136 (by decide) ?_
        have hin17 := h.1
        have h := h.2
        refine x_iast (a := 23) (k := 0) (n := 48) hx hb hK hP hAd hS (in1m hC (a := 23) (by decide) (by decide)) (fun _ => rfl) hin17 dX5_asked_146 (fun H locs hP hS => ?_)
        obtain ⟨σ15, e16⟩ : ∃ z, z = sI σ11 23 0 (ix r2) x4 := ⟨_, rfl⟩
        rw [← e16] at hP
        have h := h σ15 e16
        refine lv_goto (tgt := 261) hx hb dX5_asked_147 (by decide) ?_
        exact W.vret hx hb hr (fun t ht hW => ⟨⟨σ15, rfl, h, by rw [ht]; exact hP, va_K.moved hW.alike hK⟩, hS.F ht⟩) hS.2.2 dX5_asked_261
  · have h := h.2 c5
    refine lv_aload_n hx hb dX5_asked_17 rfl (lv_at hl 1 rfl) ?_
    refine x_get (C := RX5) (T := TX5) (N := 25) (ci := 5) (a := 20) (k := 0) (v := .ref (ad (29, 0))) hx hb hts iw_X5_asked_X5 hown hK hP (in1m hC (a := 20) (by decide) (by decide)) rfl rfl 9 (by decide) (hts (.fieldLink RX5 36 "PageOwnersModel" "page" "[I") (by decide +kernel)) (fun _ h9 => h9) rfl dX5_asked_18 ?_
    refine lv_iload_n hx hb dX5_asked_21 rfl (lv_at hl 2 rfl) ?_
    have hin53 := h.1
    have h := h.2
    refine x_iald (a := 29) (k := 0) (n := 6) hx hb hK hP (in1m hC (a := 29) (by decide) (by decide)) (fun _ => rfl) hin53 dX5_asked_22 ?_
    refine lv_iload_n hx hb dX5_asked_23 rfl (lv_at hl 3 rfl) ?_
    refine lv_icmp_ne (tgt := 86) hx hb dX5_asked_24 (by decide) (fun c54 => ?_) (fun c54 => ?_)
    · have h := h.2 c54
      refine lv_aload_n hx hb dX5_asked_86 rfl (lv_at hl 1 rfl) ?_
      refine x_get (C := RX5) (T := TX5) (N := 25) (ci := 5) (a := 20) (k := 0) (v := .ref (ad (22, 0))) hx hb hts iw_X5_asked_X5 hown hK hP (in1m hC (a := 20) (by decide) (by decide)) rfl rfl 2 (by decide) (hts (.fieldLink RX5 13 "PageOwnersModel" "isOwner" "[Z") (by decide +kernel)) (fun _ h9 => h9) rfl dX5_asked_87 ?_
      refine lv_iload hx hb dX5_asked_90 (lv_at hl 0 rfl) ?_
      have hin67 := h.1
      have h := h.2
      refine x_zald (a := 22) (k := 0) (n := 48) hx hb hK hP (in1m hC (a := 22) (by decide) (by decide)) (fun _ => rfl) hin67 dX5_asked_92 ?_
      refine lv_if_ne (tgt := 150) hx hb dX5_asked_93 (by decide) (fun c68 => ?_) (fun c68 => ?_)
      · have h := h.2 c68
        refine lv_iload_n hx hb dX5_asked_150 rfl (lv_at hl 4 rfl) ?_
        refine lv_iconst (v := 1) hx hb dX5_asked_151 (by decide) ?_
        refine lv_icmp_ne (tgt := 201) hx hb dX5_asked_152 (by decide) (fun c83 => ?_) (fun c83 => ?_)
        · have h := h.2 c83
          refine lv_aload_n hx hb dX5_asked_201 rfl (lv_at hl 1 rfl) ?_
          refine x_get (C := RX5) (T := TX5) (N := 25) (ci := 5) (a := 20) (k := 0) (v := .ref (ad (41, 0))) hx hb hts iw_X5_asked_X5 hown hK hP (in1m hC (a := 20) (by decide) (by decide)) rfl rfl 21 (by decide) (hts (.fieldLink RX5 69 "PageOwnersModel" "counts" "[I") (by decide +kernel)) (fun _ h9 => h9) rfl dX5_asked_202 ?_
          refine lv_iconst (v := 4) hx hb dX5_asked_205 (by decide) ?_
          refine lv_dup2_11 hx hb dX5_asked_206 rfl rfl ?_
          refine x_iald (a := 41) (k := 0) (n := 8) hx hb hK hP (in1m hC (a := 41) (by decide) (by decide)) (fun _ => rfl) (by unfold vp_in; decide) dX5_asked_207 ?_
          refine lv_iconst (v := 1) hx hb dX5_asked_208 (by decide) ?_
          refine lv_iadd hx hb dX5_asked_209 ?_
          refine x_iast (a := 41) (k := 0) (n := 8) hx hb hK hP hAd hS (in1m hC (a := 41) (by decide) (by decide)) (fun _ => rfl) (by unfold vp_in; decide) dX5_asked_210 (fun H locs hP hS => ?_)
          obtain ⟨σ96, e97⟩ : ∃ z, z = sI σ1 41 0 (ix 4) ((σ1.1 41 0 (ix 4)) + 1) := ⟨_, rfl⟩
          rw [← e97] at hP
          have h := h σ96 e97
          refine lv_aload_n hx hb dX5_asked_211 rfl (lv_at hl 1 rfl) ?_
          refine lv_iconst (v := 4) hx hb dX5_asked_212 (by decide) ?_
          refine lv_iload_n hx hb dX5_asked_213 rfl (lv_at hl 2 rfl) ?_
          refine lv_iload hx hb dX5_asked_214 (lv_at hl 5 rfl) ?_
          refine lv_iload_n hx hb dX5_asked_216 rfl (lv_at hl 3 rfl) ?_
          refine lv_iconst (v := (-1)) hx hb dX5_asked_217 (by decide) ?_
          refine lv_aload_n hx hb dX5_asked_218 rfl (lv_at hl 1 rfl) ?_
          refine x_get (C := RX5) (T := TX5) (N := 25) (ci := 5) (a := 20) (k := 0) (v := .ref (ad (24, 0))) hx hb hts iw_X5_asked_X5 hown hK hP (in1m hC (a := 20) (by decide) (by decide)) rfl rfl 4 (by decide) (hts (.fieldLink RX5 20 "PageOwnersModel" "copies" "[I") (by decide +kernel)) (fun _ h9 => h9) rfl dX5_asked_219 ?_
          refine lv_iload hx hb dX5_asked_222 (lv_at hl 0 rfl) ?_
          have hin98 := h.1
          have h := h.2
          refine x_iald (a := 24) (k := 0) (n := 48) hx hb hK hP (in1m hC (a := 24) (by decide) (by decide)) (fun _ => rfl) hin98 dX5_asked_224 ?_
          refine x_cVv (C := RX5) (As := [.int 4, .int x1, .int x4, .int x2, .int (-1), .int (σ96.1 24 0 (ix r2))]) (rest := []) ⟨hx, hb, hml, hown, hts⟩ hK hP hS (c_X5_send l hAd hC σ96 4 x1 x4 x2 (-1) (σ96.1 24 0 (ix r2)) _ h) (cwV 6 hts gX5_asked_X5_send rfl rfl rfl (by decide +kernel) ⟨Nat.le_of_ble_eq_true rfl, Nat.le_of_ble_eq_true rfl⟩) (x_recv hK hP (in1m hC (a := 20) (by decide) (by decide)) rfl rfl) rfl hl.1 rfl (Nat.le_of_ble_eq_true rfl) dX5_asked_225 ⟨Nat.zero_le _, Nat.zero_le _⟩ (fun σ99 H locs h hP hS => ?_)
          refine lv_aload_n hx hb dX5_asked_228 rfl (lv_at hl 1 rfl) ?_
          refine x_get (C := RX5) (T := TX5) (N := 25) (ci := 5) (a := 20) (k := 0) (v := .ref (ad (22, 0))) hx hb hts iw_X5_asked_X5 hown hK hP (in1m hC (a := 20) (by decide) (by decide)) rfl rfl 2 (by decide) (hts (.fieldLink RX5 13 "PageOwnersModel" "isOwner" "[Z") (by decide +kernel)) (fun _ h9 => h9) rfl dX5_asked_229 ?_
          refine lv_iload hx hb dX5_asked_232 (lv_at hl 0 rfl) ?_
          refine lv_iconst (v := 0) hx hb dX5_asked_234 (by decide) ?_
          have hin104 := h.1
          have h := h.2
          refine x_zast (a := 22) (k := 0) (n := 48) hx hb hK hP hAd hS (in1m hC (a := 22) (by decide) (by decide)) (fun _ => rfl) hin104 (by decide) dX5_asked_235 (fun H locs hP hS => ?_)
          obtain ⟨σ102, e103⟩ : ∃ z, z = sI σ99 22 0 (ix r2) 0 := ⟨_, rfl⟩
          rw [← e103] at hP
          have h := h σ102 e103
          refine lv_aload_n hx hb dX5_asked_236 rfl (lv_at hl 1 rfl) ?_
          refine x_get (C := RX5) (T := TX5) (N := 25) (ci := 5) (a := 20) (k := 0) (v := .ref (ad (24, 0))) hx hb hts iw_X5_asked_X5 hown hK hP (in1m hC (a := 20) (by decide) (by decide)) rfl rfl 4 (by decide) (hts (.fieldLink RX5 20 "PageOwnersModel" "copies" "[I") (by decide +kernel)) (fun _ h9 => h9) rfl dX5_asked_237 ?_
          refine lv_iload hx hb dX5_asked_240 (lv_at hl 0 rfl) ?_
          refine lv_iconst (v := 0) hx hb dX5_asked_242 (by decide) ?_
          have hin107 := h.1
          have h := h.2
          refine x_iast (a := 24) (k := 0) (n := 48) hx hb hK hP hAd hS (in1m hC (a := 24) (by decide) (by decide)) (fun _ => rfl) hin107 dX5_asked_243 (fun H locs hP hS => ?_)
          obtain ⟨σ105, e106⟩ : ∃ z, z = sI σ102 24 0 (ix r2) 0 := ⟨_, rfl⟩
          rw [← e106] at hP
          have h := h σ105 e106
          refine lv_aload_n hx hb dX5_asked_244 rfl (lv_at hl 1 rfl) ?_
          refine x_get (C := RX5) (T := TX5) (N := 25) (ci := 5) (a := 20) (k := 0) (v := .ref (ad (21, 0))) hx hb hts iw_X5_asked_X5 hown hK hP (in1m hC (a := 20) (by decide) (by decide)) rfl rfl 1 (by decide) (hts (.fieldLink RX5 7 "PageOwnersModel" "access" "[I") (by decide +kernel)) (fun _ h9 => h9) rfl dX5_asked_245 ?_
          refine lv_iload hx hb dX5_asked_248 (lv_at hl 0 rfl) ?_
          refine lv_iconst (v := 0) hx hb dX5_asked_250 (by decide) ?_
          have hin110 := h.1
          have h := h.2
          refine x_iast (a := 21) (k := 0) (n := 48) hx hb hK hP hAd hS (in1m hC (a := 21) (by decide) (by decide)) (fun _ => rfl) hin110 dX5_asked_251 (fun H locs hP hS => ?_)
          obtain ⟨σ108, e109⟩ : ∃ z, z = sI σ105 21 0 (ix r2) 0 := ⟨_, rfl⟩
          rw [← e109] at hP
          have h := h σ108 e109
          refine lv_aload_n hx hb dX5_asked_252 rfl (lv_at hl 1 rfl) ?_
          refine x_get (C := RX5) (T := TX5) (N := 25) (ci := 5) (a := 20) (k := 0) (v := .ref (ad (23, 0))) hx hb hts iw_X5_asked_X5 hown hK hP (in1m hC (a := 20) (by decide) (by decide)) rfl rfl 3 (by decide) (hts (.fieldLink RX5 17 "PageOwnersModel" "guess" "[I") (by decide +kernel)) (fun _ h9 => h9) rfl dX5_asked_253 ?_
          refine lv_iload hx hb dX5_asked_256 (lv_at hl 0 rfl) ?_
          refine lv_iload hx hb dX5_asked_258 (lv_at hl 5 rfl) ?_
          have hin113 := h.1
          have h := h.2
          refine x_iast (a := 23) (k := 0) (n := 48) hx hb hK hP hAd hS (in1m hC (a := 23) (by decide) (by decide)) (fun _ => rfl) hin113 dX5_asked_260 (fun H locs hP hS => ?_)
          obtain ⟨σ111, e112⟩ : ∃ z, z = sI σ108 23 0 (ix r2) x4 := ⟨_, rfl⟩
          rw [← e112] at hP
          have h := h σ111 e112
          exact W.vret hx hb hr (fun t ht hW => ⟨⟨σ111, rfl, h, by rw [ht]; exact hP, va_K.moved hW.alike hK⟩, hS.F ht⟩) hS.2.2 dX5_asked_261
        · have h := h.1 c83
          refine lv_aload_n hx hb dX5_asked_155 rfl (lv_at hl 1 rfl) ?_
          refine x_get (C := RX5) (T := TX5) (N := 25) (ci := 5) (a := 20) (k := 0) (v := .ref (ad (24, 0))) hx hb hts iw_X5_asked_X5 hown hK hP (in1m hC (a := 20) (by decide) (by decide)) rfl rfl 4 (by decide) (hts (.fieldLink RX5 20 "PageOwnersModel" "copies" "[I") (by decide +kernel)) (fun _ h9 => h9) rfl dX5_asked_156 ?_
          refine lv_iload hx hb dX5_asked_159 (lv_at hl 0 rfl) ?_
          refine lv_dup2_11 hx hb dX5_asked_161 rfl rfl ?_
          have hin84 := h.1
          have h := h.2
          refine x_iald (a := 24) (k := 0) (n := 48) hx hb hK hP (in1m hC (a := 24) (by decide) (by decide)) (fun _ => rfl) hin84 dX5_asked_162 ?_
          refine lv_iconst (v := 1) hx hb dX5_asked_163 (by decide) ?_
          refine lv_iload hx hb dX5_asked_164 (lv_at hl 5 rfl) ?_
          refine lv_ishl hx hb dX5_asked_166 ?_
          refine lv_ior hx hb dX5_asked_167 ?_
          have hin87 := h.1
          have h := h.2
          refine x_iast (a := 24) (k := 0) (n := 48) hx hb hK hP hAd hS (in1m hC (a := 24) (by decide) (by decide)) (fun _ => rfl) hin87 dX5_asked_168 (fun H locs hP hS => ?_)
          obtain ⟨σ85, e86⟩ : ∃ z, z = sI σ1 24 0 (ix r2) ((σ1.1 24 0 (ix r2)) ||| (1 <<< (x4 &&& 31))) := ⟨_, rfl⟩
          rw [← e86] at hP
          have h := h σ85 e86
          refine lv_aload_n hx hb dX5_asked_169 rfl (lv_at hl 1 rfl) ?_
          refine x_get (C := RX5) (T := TX5) (N := 25) (ci := 5) (a := 20) (k := 0) (v := .ref (ad (21, 0))) hx hb hts iw_X5_asked_X5 hown hK hP (in1m hC (a := 20) (by decide) (by decide)) rfl rfl 1 (by decide) (hts (.fieldLink RX5 7 "PageOwnersModel" "access" "[I") (by decide +kernel)) (fun _ h9 => h9) rfl dX5_asked_170 ?_
          refine lv_iload hx hb dX5_asked_173 (lv_at hl 0 rfl) ?_
          refine lv_iconst (v := 1) hx hb dX5_asked_175 (by decide) ?_
          have hin90 := h.1
          have h := h.2
          refine x_iast (a := 21) (k := 0) (n := 48) hx hb hK hP hAd hS (in1m hC (a := 21) (by decide) (by decide)) (fun _ => rfl) hin90 dX5_asked_176 (fun H locs hP hS => ?_)
          obtain ⟨σ88, e89⟩ : ∃ z, z = sI σ85 21 0 (ix r2) 1 := ⟨_, rfl⟩
          rw [← e89] at hP
          have h := h σ88 e89
          refine lv_aload_n hx hb dX5_asked_177 rfl (lv_at hl 1 rfl) ?_
          refine x_get (C := RX5) (T := TX5) (N := 25) (ci := 5) (a := 20) (k := 0) (v := .ref (ad (41, 0))) hx hb hts iw_X5_asked_X5 hown hK hP (in1m hC (a := 20) (by decide) (by decide)) rfl rfl 21 (by decide) (hts (.fieldLink RX5 69 "PageOwnersModel" "counts" "[I") (by decide +kernel)) (fun _ h9 => h9) rfl dX5_asked_178 ?_
          refine lv_iconst (v := 3) hx hb dX5_asked_181 (by decide) ?_
          refine lv_dup2_11 hx hb dX5_asked_182 rfl rfl ?_
          refine x_iald (a := 41) (k := 0) (n := 8) hx hb hK hP (in1m hC (a := 41) (by decide) (by decide)) (fun _ => rfl) (by unfold vp_in; decide) dX5_asked_183 ?_
          refine lv_iconst (v := 1) hx hb dX5_asked_184 (by decide) ?_
          refine lv_iadd hx hb dX5_asked_185 ?_
          refine x_iast (a := 41) (k := 0) (n := 8) hx hb hK hP hAd hS (in1m hC (a := 41) (by decide) (by decide)) (fun _ => rfl) (by unfold vp_in; decide) dX5_asked_186 (fun H locs hP hS => ?_)
          obtain ⟨σ91, e92⟩ : ∃ z, z = sI σ88 41 0 (ix 3) ((σ88.1 41 0 (ix 3)) + 1) := ⟨_, rfl⟩
          rw [← e92] at hP
          have h := h σ91 e92
          refine lv_aload_n hx hb dX5_asked_187 rfl (lv_at hl 1 rfl) ?_
          refine lv_iconst (v := 3) hx hb dX5_asked_188 (by decide) ?_
          refine lv_iload_n hx hb dX5_asked_189 rfl (lv_at hl 2 rfl) ?_
          refine lv_iload hx hb dX5_asked_190 (lv_at hl 5 rfl) ?_
          refine lv_iload_n hx hb dX5_asked_192 rfl (lv_at hl 3 rfl) ?_
          refine lv_iconst (v := (-1)) hx hb dX5_asked_193 (by decide) ?_
          refine lv_iconst (v := 0) hx hb dX5_asked_194 (by decide) ?_
          refine x_cVv (C := RX5) (As := [.int 3, .int x1, .int x4, .int x2, .int (-1), .int 0]) (rest := []) ⟨hx, hb, hml, hown, hts⟩ hK hP hS (c_X5_send l hAd hC σ91 3 x1 x4 x2 (-1) 0 _ h) (cwV 6 hts gX5_asked_X5_send rfl rfl rfl (by decide +kernel) ⟨Nat.le_of_ble_eq_true rfl, Nat.le_of_ble_eq_true rfl⟩) (x_recv hK hP (in1m hC (a := 20) (by decide) (by decide)) rfl rfl) rfl hl.1 rfl (Nat.le_of_ble_eq_true rfl) dX5_asked_195 ⟨Nat.zero_le _, Nat.zero_le _⟩ (fun σ93 H locs h hP hS => ?_)
          refine lv_goto (tgt := 261) hx hb dX5_asked_198 (by decide) ?_
          exact W.vret hx hb hr (fun t ht hW => ⟨⟨σ93, rfl, h, by rw [ht]; exact hP, va_K.moved hW.alike hK⟩, hS.F ht⟩) hS.2.2 dX5_asked_261
      · have h := h.1 c68
        refine lv_aload_n hx hb dX5_asked_96 rfl (lv_at hl 1 rfl) ?_
        refine x_get (C := RX5) (T := TX5) (N := 25) (ci := 5) (a := 20) (k := 0) (v := .ref (ad (41, 0))) hx hb hts iw_X5_asked_X5 hown hK hP (in1m hC (a := 20) (by decide) (by decide)) rfl rfl 21 (by decide) (hts (.fieldLink RX5 69 "PageOwnersModel" "counts" "[I") (by decide +kernel)) (fun _ h9 => h9) rfl dX5_asked_97 ?_
        refine lv_iconst (v := 2) hx hb dX5_asked_100 (by decide) ?_
        refine lv_dup2_11 hx hb dX5_asked_101 rfl rfl ?_
        refine x_iald (a := 41) (k := 0) (n := 8) hx hb hK hP (in1m hC (a := 41) (by decide) (by decide)) (fun _ => rfl) (by unfold vp_in; decide) dX5_asked_102 ?_
        refine lv_iconst (v := 1) hx hb dX5_asked_103 (by decide) ?_
        refine lv_iadd hx hb dX5_asked_104 ?_
        refine x_iast (a := 41) (k := 0) (n := 8) hx hb hK hP hAd hS (in1m hC (a := 41) (by decide) (by decide)) (fun _ => rfl) (by unfold vp_in; decide) dX5_asked_105 (fun H locs hP hS => ?_)
        obtain ⟨σ69, e70⟩ : ∃ z, z = sI σ1 41 0 (ix 2) ((σ1.1 41 0 (ix 2)) + 1) := ⟨_, rfl⟩
        rw [← e70] at hP
        have h := h σ69 e70
        refine lv_aload_n hx hb dX5_asked_106 rfl (lv_at hl 1 rfl) ?_
        refine lv_iload_n hx hb dX5_asked_107 rfl (lv_at hl 4 rfl) ?_
        refine lv_iload_n hx hb dX5_asked_108 rfl (lv_at hl 2 rfl) ?_
        refine lv_aload_n hx hb dX5_asked_109 rfl (lv_at hl 1 rfl) ?_
        refine x_get (C := RX5) (T := TX5) (N := 25) (ci := 5) (a := 20) (k := 0) (v := .ref (ad (23, 0))) hx hb hts iw_X5_asked_X5 hown hK hP (in1m hC (a := 20) (by decide) (by decide)) rfl rfl 3 (by decide) (hts (.fieldLink RX5 17 "PageOwnersModel" "guess" "[I") (by decide +kernel)) (fun _ h9 => h9) rfl dX5_asked_110 ?_
        refine lv_iload hx hb dX5_asked_113 (lv_at hl 0 rfl) ?_
        have hin71 := h.1
        have h := h.2
        refine x_iald (a := 23) (k := 0) (n := 48) hx hb hK hP (in1m hC (a := 23) (by decide) (by decide)) (fun _ => rfl) hin71 dX5_asked_115 ?_
        refine lv_iload_n hx hb dX5_asked_116 rfl (lv_at hl 3 rfl) ?_
        refine lv_iload hx hb dX5_asked_117 (lv_at hl 5 rfl) ?_
        refine lv_iconst (v := 0) hx hb dX5_asked_119 (by decide) ?_
        refine x_cVv (C := RX5) (As := [.int x3, .int x1, .int (σ69.1 23 0 (ix r2)), .int x2, .int x4, .int 0]) (rest := []) ⟨hx, hb, hml, hown, hts⟩ hK hP hS (c_X5_send l hAd hC σ69 x3 x1 (σ69.1 23 0 (ix r2)) x2 x4 0 _ h) (cwV 6 hts gX5_asked_X5_send rfl rfl rfl (by decide +kernel) ⟨Nat.le_of_ble_eq_true rfl, Nat.le_of_ble_eq_true rfl⟩) (x_recv hK hP (in1m hC (a := 20) (by decide) (by decide)) rfl rfl) rfl hl.1 rfl (Nat.le_of_ble_eq_true rfl) dX5_asked_120 ⟨Nat.zero_le _, Nat.zero_le _⟩ (fun σ72 H locs h hP hS => ?_)
        refine lv_aload_n hx hb dX5_asked_123 rfl (lv_at hl 1 rfl) ?_
        refine x_get (C := RX5) (T := TX5) (N := 25) (ci := 5) (a := 20) (k := 0) (v := .ref (ad (23, 0))) hx hb hts iw_X5_asked_X5 hown hK hP (in1m hC (a := 20) (by decide) (by decide)) rfl rfl 3 (by decide) (hts (.fieldLink RX5 17 "PageOwnersModel" "guess" "[I") (by decide +kernel)) (fun _ h9 => h9) rfl dX5_asked_124 ?_
        refine lv_iload hx hb dX5_asked_127 (lv_at hl 0 rfl) ?_
        refine lv_iload_n hx hb dX5_asked_129 rfl (lv_at hl 4 rfl) ?_
        refine lv_iconst (v := 2) hx hb dX5_asked_130 (by decide) ?_
        refine lv_icmp_ne (tgt := 139) hx hb dX5_asked_131 (by decide) (fun c75 => ?_) (fun c75 => ?_)
        · have h := h.2 c75
          refine lv_aload_n hx hb dX5_asked_139 rfl (lv_at hl 1 rfl) ?_
          refine x_get (C := RX5) (T := TX5) (N := 25) (ci := 5) (a := 20) (k := 0) (v := .ref (ad (23, 0))) hx hb hts iw_X5_asked_X5 hown hK hP (in1m hC (a := 20) (by decide) (by decide)) rfl rfl 3 (by decide) (hts (.fieldLink RX5 17 "PageOwnersModel" "guess" "[I") (by decide +kernel)) (fun _ h9 => h9) rfl dX5_asked_140 ?_
          refine lv_iload hx hb dX5_asked_143 (lv_at hl 0 rfl) ?_
          have hin79 := h.1
          have h := h.2
          refine x_iald (a := 23) (k := 0) (n := 48) hx hb hK hP (in1m hC (a := 23) (by decide) (by decide)) (fun _ => rfl) hin79 dX5_asked_145 ?_
          have hin82 := h.1
          have h := h.2
          refine x_iast (a := 23) (k := 0) (n := 48) hx hb hK hP hAd hS (in1m hC (a := 23) (by decide) (by decide)) (fun _ => rfl) hin82 dX5_asked_146 (fun H locs hP hS => ?_)
          obtain ⟨σ80, e81⟩ : ∃ z, z = sI σ72 23 0 (ix r2) (σ72.1 23 0 (ix r2)) := ⟨_, rfl⟩
          rw [← e81] at hP
          have h := h σ80 e81
          refine lv_goto (tgt := 261) hx hb dX5_asked_147 (by decide) ?_
          exact W.vret hx hb hr (fun t ht hW => ⟨⟨σ80, rfl, h, by rw [ht]; exact hP, va_K.moved hW.alike hK⟩, hS.F ht⟩) hS.2.2 dX5_asked_261
        · have h := h.1 c75
          refine lv_iload hx hb dX5_asked_134 (lv_at hl 5 rfl) ?_
          refine lv_goto (tgt := 146) hx hb dX5_asked_136 (by decide) ?_
          have hin78 := h.1
          have h := h.2
          refine x_iast (a := 23) (k := 0) (n := 48) hx hb hK hP hAd hS (in1m hC (a := 23) (by decide) (by decide)) (fun _ => rfl) hin78 dX5_asked_146 (fun H locs hP hS => ?_)
          obtain ⟨σ76, e77⟩ : ∃ z, z = sI σ72 23 0 (ix r2) x4 := ⟨_, rfl⟩
          rw [← e77] at hP
          have h := h σ76 e77
          refine lv_goto (tgt := 261) hx hb dX5_asked_147 (by decide) ?_
          exact W.vret hx hb hr (fun t ht hW => ⟨⟨σ76, rfl, h, by rw [ht]; exact hP, va_K.moved hW.alike hK⟩, hS.F ht⟩) hS.2.2 dX5_asked_261
    · have h := h.1 c54
      refine lv_aload_n hx hb dX5_asked_27 rfl (lv_at hl 1 rfl) ?_
      refine x_get (C := RX5) (T := TX5) (N := 25) (ci := 5) (a := 20) (k := 0) (v := .ref (ad (26, 0))) hx hb hts iw_X5_asked_X5 hown hK hP (in1m hC (a := 20) (by decide) (by decide)) rfl rfl 6 (by decide) (hts (.fieldLink RX5 27 "PageOwnersModel" "queue" "[I") (by decide +kernel)) (fun _ h9 => h9) rfl dX5_asked_28 ?_
      refine lv_bipush (v := 20) hx hb dX5_asked_31 (by decide) ?_
      refine lv_iload hx hb dX5_asked_33 (lv_at hl 0 rfl) ?_
      refine lv_imul hx hb dX5_asked_35 ?_
      refine lv_iconst (v := 2) hx hb dX5_asked_36 (by decide) ?_
      refine lv_aload_n hx hb dX5_asked_37 rfl (lv_at hl 1 rfl) ?_
      refine x_get (C := RX5) (T := TX5) (N := 25) (ci := 5) (a := 20) (k := 0) (v := .ref (ad (27, 0))) hx hb hts iw_X5_asked_X5 hown hK hP (in1m hC (a := 20) (by decide) (by decide)) rfl rfl 7 (by decide) (hts (.fieldLink RX5 30 "PageOwnersModel" "queued" "[I") (by decide +kernel)) (fun _ h9 => h9) rfl dX5_asked_38 ?_
      refine lv_iload hx hb dX5_asked_41 (lv_at hl 0 rfl) ?_
      have hin55 := h.1
      have h := h.2
      refine x_iald (a := 27) (k := 0) (n := 48) hx hb hK hP (in1m hC (a := 27) (by decide) (by decide)) (fun _ => rfl) hin55 dX5_asked_43 ?_
      refine lv_imul hx hb dX5_asked_44 ?_
      refine lv_iadd hx hb dX5_asked_45 ?_
      refine lv_iload_n hx hb dX5_asked_46 rfl (lv_at hl 4 rfl) ?_
      have hin58 := h.1
      have h := h.2
      refine x_iast (a := 26) (k := 0) (n := 960) hx hb hK hP hAd hS (in1m hC (a := 26) (by decide) (by decide)) (fun _ => rfl) hin58 dX5_asked_47 (fun H locs hP hS => ?_)
      obtain ⟨σ56, e57⟩ : ∃ z, z = sI σ1 26 0 (ix ((20 * r2) + (2 * (σ1.1 27 0 (ix r2))))) x3 := ⟨_, rfl⟩
      rw [← e57] at hP
      have h := h σ56 e57
      refine lv_aload_n hx hb dX5_asked_48 rfl (lv_at hl 1 rfl) ?_
      refine x_get (C := RX5) (T := TX5) (N := 25) (ci := 5) (a := 20) (k := 0) (v := .ref (ad (26, 0))) hx hb hts iw_X5_asked_X5 hown hK hP (in1m hC (a := 20) (by decide) (by decide)) rfl rfl 6 (by decide) (hts (.fieldLink RX5 27 "PageOwnersModel" "queue" "[I") (by decide +kernel)) (fun _ h9 => h9) rfl dX5_asked_49 ?_
      refine lv_bipush (v := 20) hx hb dX5_asked_52 (by decide) ?_
      refine lv_iload hx hb dX5_asked_54 (lv_at hl 0 rfl) ?_
      refine lv_imul hx hb dX5_asked_56 ?_
      refine lv_iconst (v := 2) hx hb dX5_asked_57 (by decide) ?_
      refine lv_aload_n hx hb dX5_asked_58 rfl (lv_at hl 1 rfl) ?_
      refine x_get (C := RX5) (T := TX5) (N := 25) (ci := 5) (a := 20) (k := 0) (v := .ref (ad (27, 0))) hx hb hts iw_X5_asked_X5 hown hK hP (in1m hC (a := 20) (by decide) (by decide)) rfl rfl 7 (by decide) (hts (.fieldLink RX5 30 "PageOwnersModel" "queued" "[I") (by decide +kernel)) (fun _ h9 => h9) rfl dX5_asked_59 ?_
      refine lv_iload hx hb dX5_asked_62 (lv_at hl 0 rfl) ?_
      have hin59 := h.1
      have h := h.2
      refine x_iald (a := 27) (k := 0) (n := 48) hx hb hK hP (in1m hC (a := 27) (by decide) (by decide)) (fun _ => rfl) hin59 dX5_asked_64 ?_
      refine lv_imul hx hb dX5_asked_65 ?_
      refine lv_iadd hx hb dX5_asked_66 ?_
      refine lv_iconst (v := 1) hx hb dX5_asked_67 (by decide) ?_
      refine lv_iadd hx hb dX5_asked_68 ?_
      refine lv_iload hx hb dX5_asked_69 (lv_at hl 5 rfl) ?_
      have hin62 := h.1
      have h := h.2
      refine x_iast (a := 26) (k := 0) (n := 960) hx hb hK hP hAd hS (in1m hC (a := 26) (by decide) (by decide)) (fun _ => rfl) hin62 dX5_asked_71 (fun H locs hP hS => ?_)
      obtain ⟨σ60, e61⟩ : ∃ z, z = sI σ56 26 0 (ix (((20 * r2) + (2 * (σ56.1 27 0 (ix r2)))) + 1)) x4 := ⟨_, rfl⟩
      rw [← e61] at hP
      have h := h σ60 e61
      refine lv_aload_n hx hb dX5_asked_72 rfl (lv_at hl 1 rfl) ?_
      refine x_get (C := RX5) (T := TX5) (N := 25) (ci := 5) (a := 20) (k := 0) (v := .ref (ad (27, 0))) hx hb hts iw_X5_asked_X5 hown hK hP (in1m hC (a := 20) (by decide) (by decide)) rfl rfl 7 (by decide) (hts (.fieldLink RX5 30 "PageOwnersModel" "queued" "[I") (by decide +kernel)) (fun _ h9 => h9) rfl dX5_asked_73 ?_
      refine lv_iload hx hb dX5_asked_76 (lv_at hl 0 rfl) ?_
      refine lv_dup2_11 hx hb dX5_asked_78 rfl rfl ?_
      have hin63 := h.1
      have h := h.2
      refine x_iald (a := 27) (k := 0) (n := 48) hx hb hK hP (in1m hC (a := 27) (by decide) (by decide)) (fun _ => rfl) hin63 dX5_asked_79 ?_
      refine lv_iconst (v := 1) hx hb dX5_asked_80 (by decide) ?_
      refine lv_iadd hx hb dX5_asked_81 ?_
      have hin66 := h.1
      have h := h.2
      refine x_iast (a := 27) (k := 0) (n := 48) hx hb hK hP hAd hS (in1m hC (a := 27) (by decide) (by decide)) (fun _ => rfl) hin66 dX5_asked_82 (fun H locs hP hS => ?_)
      obtain ⟨σ64, e65⟩ : ∃ z, z = sI σ60 27 0 (ix r2) ((σ60.1 27 0 (ix r2)) + 1) := ⟨_, rfl⟩
      rw [← e65] at hP
      have h := h σ64 e65
      refine lv_goto (tgt := 261) hx hb dX5_asked_83 (by decide) ?_
      exact W.vret hx hb hr (fun t ht hW => ⟨⟨σ64, rfl, h, by rw [ht]; exact hP, va_K.moved hW.alike hK⟩, hS.F ht⟩) hS.2.2 dX5_asked_261
theorem iw_X5_goOver_X5 : ∀ w ∈ wsX50, w ∈ wsX5_goOver := fun _ h => List.mem_cons_of_mem _ (List.mem_append_right _ h)
def lp_X5_goOver_61 (x1 : Int32) (x2 : Int32) (Q : Sg → Prop) : Nat → Sg → Int32 → Int32 → Int32 → Prop
  | 0, _, _, _, _ => False
  | n + 1, σ, y3, y4, y5 => ((y4 ≤ y5 → Q σ) ∧ (¬ (y4 ≤ y5) → (vp_in (2 * y5) 20 ∧ (vp_in ((2 * y5) + 1) 20 ∧ (wp_X5_asked σ x1 x2 (σ.1 44 0 (ix (2 * y5))) (σ.1 44 0 (ix ((2 * y5) + 1))) (fun σ12 => lp_X5_goOver_61 x1 x2 Q n σ12 y3 y4 (y5 + 1)))))))
def lp_X5_goOver_17 (x1 : Int32) (x2 : Int32) (Q : Sg → Prop) : Nat → Sg → Int32 → Int32 → Int32 → Prop
  | 0, _, _, _, _ => False
  | n + 1, σ, y3, y4, y5 => (((2 * y4) ≤ y5 → (vp_in y3 48 ∧ (∀ σ6, σ6 = sI σ 27 0 (ix y3) 0 → (∃ n15, lp_X5_goOver_61 x1 x2 Q n15 σ6 y3 y4 0)))) ∧ (¬ ((2 * y4) ≤ y5) → (vp_in ((20 * y3) + y5) 960 ∧ (vp_in y5 20 ∧ (∀ σ17, σ17 = sI σ 44 0 (ix y5) (σ.1 26 0 (ix ((20 * y3) + y5))) → lp_X5_goOver_17 x1 x2 Q n σ17 y3 y4 (y5 + 1))))))
def wp_X5_goOver (σ : Sg) (x1 : Int32) (x2 : Int32) (Q : Sg → Prop) : Prop := (wp_X5_place σ x1 x2 (fun σ1 r2 => (vp_in r2 48 ∧ (∃ n20, lp_X5_goOver_17 x1 x2 Q n20 σ1 r2 (σ1.1 27 0 (ix r2)) 0))))
abbrev rm_X5_goOver : Room := { frames := 3, cells := 0, slots := 0, locals := 74 }
set_option maxHeartbeats 4000000 in
set_option maxRecDepth 100000 in
theorem c_X5_goOver (l : Launch) {D : va_G} {P : List (Nat × Nat)} {ad : Nat × Nat → Nat} {cy : Nat → ClassId} (hAd : AdOk P ad) (hC : InM P) (σ : Sg) (x1 : Int32) (x2 : Int32) (Q : Sg → Prop) (h : wp_X5_goOver σ x1 x2 Q) : Met l yX5_goOver wsX5_goOver rm_X5_goOver (xPc D P ad cy σ [.ref (ad (20, 0)), .int x1, .int x2]) (va_Qv Q (xB D P ad cy) (Aof P ad)) 0 0 (Aof P ad) := by
  refine Met.ofW (cc := cX5_goOver) (maxL := 6) (ret := none) (by decide +kernel) rfl ?_
  intro p e s m args below meth c s₁ B hml hv
  obtain ⟨rfl, hP, hK⟩ := hv
  have hx := B.exec
  have hb := B.bytes
  have hr := B.returns
  have hts := atoms_spec (ws := wsX5_goOver) B.pre
  have hown : s.vm.findClass RX5 = some m.cls := findClass_of_methodNamed B.named
  have hlocks := B.notSynchronized
  have hS : va_S (Aof P ad) s.heap s.heap [] := va_S.rf
  have hl := lv_entry ([.ref (ad (20, 0)), .int x1, .int x2] : List Value) (n := 6) (Nat.le_of_ble_eq_true rfl)
  rw [lg_entry_eq]
  generalize (lg_sl ([.ref (ad (20, 0)), .int x1, .int x2] : List Value) ++ List.replicate (6 - (lg_sl ([.ref (ad (20, 0)), .int x1, .int x2] : List Value)).length) Slot.unset).toArray = ls at hl ⊢
  have hl : lv_has ls 6 [(0, .ref (ad (20, 0))), (1, .int x1), (2, .int x2)] := hl
  have L61 : ∀ (n : Nat) (σ : Sg) (y3 : Int32) (y4 : Int32) (y5 : Int32) (H : Heap) (locs : List Loc) (ls : Array Slot), lp_X5_goOver_61 x1 x2 Q n σ y3 y4 y5 → Wo D P ad cy σ H → va_S (Aof P ad) s.heap H locs → lv_has ls 6 [(0, .ref (ad (20, 0))), (1, .int x1), (2, .int x2), (3, .int y3), (4, .int y4), (5, .int y5)] → W p l e (headSpec wsX5_goOver rm_X5_goOver).room s m ([.ref (ad (20, 0)), .int x1, .int x2] : List Value).toArray below meth c H locs 0 0 (MQ below (va_Qv Q (xB D P ad cy) (Aof P ad)) ([.ref (ad (20, 0)), .int x1, .int x2] : List Value).toArray s 0 0 (Aof P ad)) (F0 m 61 ls []) := by
    intro n
    induction n with
    | zero =>
      intro σ y3 y4 y5 H locs ls h
      exact h.elim
    | succ n ih =>
      intro σ y3 y4 y5 H locs ls h hP hS hl
      rw [lp_X5_goOver_61] at h
      refine lv_iload hx hb dX5_goOver_61 (lv_at hl 5 rfl) ?_
      refine lv_iload hx hb dX5_goOver_63 (lv_at hl 4 rfl) ?_
      refine lv_icmp_ge (tgt := 100) hx hb dX5_goOver_65 (by decide) (fun c9 => ?_) (fun c9 => ?_)
      · have h := h.1 c9
        exact W.vret hx hb hr (fun t ht hW => ⟨⟨σ, rfl, h, by rw [ht]; exact hP, va_K.moved hW.alike hK⟩, hS.F ht⟩) hS.2.2 dX5_goOver_100
      · have h := h.2 c9
        refine lv_aload_n hx hb dX5_goOver_68 rfl (lv_at hl 0 rfl) ?_
        refine lv_iload_n hx hb dX5_goOver_69 rfl (lv_at hl 1 rfl) ?_
        refine lv_iload_n hx hb dX5_goOver_70 rfl (lv_at hl 2 rfl) ?_
        refine lv_aload_n hx hb dX5_goOver_71 rfl (lv_at hl 0 rfl) ?_
        refine x_get (C := RX5) (T := TX5) (N := 25) (ci := 5) (a := 20) (k := 0) (v := .ref (ad (44, 0))) hx hb hts iw_X5_goOver_X5 hown hK hP (in1m hC (a := 20) (by decide) (by decide)) rfl rfl 24 (by decide) (hts (.fieldLink RX5 78 "PageOwnersModel" "aside" "[I") (by decide +kernel)) (fun _ h9 => h9) rfl dX5_goOver_72 ?_
        refine lv_iconst (v := 2) hx hb dX5_goOver_75 (by decide) ?_
        refine lv_iload hx hb dX5_goOver_76 (lv_at hl 5 rfl) ?_
        refine lv_imul hx hb dX5_goOver_78 ?_
        have hin10 := h.1
        have h := h.2
        refine x_iald (a := 44) (k := 0) (n := 20) hx hb hK hP (in1m hC (a := 44) (by decide) (by decide)) (fun _ => rfl) hin10 dX5_goOver_79 ?_
        refine lv_aload_n hx hb dX5_goOver_80 rfl (lv_at hl 0 rfl) ?_
        refine x_get (C := RX5) (T := TX5) (N := 25) (ci := 5) (a := 20) (k := 0) (v := .ref (ad (44, 0))) hx hb hts iw_X5_goOver_X5 hown hK hP (in1m hC (a := 20) (by decide) (by decide)) rfl rfl 24 (by decide) (hts (.fieldLink RX5 78 "PageOwnersModel" "aside" "[I") (by decide +kernel)) (fun _ h9 => h9) rfl dX5_goOver_81 ?_
        refine lv_iconst (v := 2) hx hb dX5_goOver_84 (by decide) ?_
        refine lv_iload hx hb dX5_goOver_85 (lv_at hl 5 rfl) ?_
        refine lv_imul hx hb dX5_goOver_87 ?_
        refine lv_iconst (v := 1) hx hb dX5_goOver_88 (by decide) ?_
        refine lv_iadd hx hb dX5_goOver_89 ?_
        have hin11 := h.1
        have h := h.2
        refine x_iald (a := 44) (k := 0) (n := 20) hx hb hK hP (in1m hC (a := 44) (by decide) (by decide)) (fun _ => rfl) hin11 dX5_goOver_90 ?_
        refine x_cVv (C := RX5) (As := [.int x1, .int x2, .int (σ.1 44 0 (ix (2 * y5))), .int (σ.1 44 0 (ix ((2 * y5) + 1)))]) (rest := []) ⟨hx, hb, hml, hown, hts⟩ hK hP hS (c_X5_asked l hAd hC σ x1 x2 (σ.1 44 0 (ix (2 * y5))) (σ.1 44 0 (ix ((2 * y5) + 1))) _ h) (cwV 4 hts gX5_goOver_X5_asked rfl rfl rfl (by decide +kernel) ⟨Nat.le_of_ble_eq_true rfl, Nat.le_of_ble_eq_true rfl⟩) (x_recv hK hP (in1m hC (a := 20) (by decide) (by decide)) rfl rfl) rfl hl.1 rfl (Nat.le_of_ble_eq_true rfl) dX5_goOver_91 ⟨Nat.zero_le _, Nat.zero_le _⟩ (fun σ12 H locs h hP hS => ?_)
        refine lv_iinc (v := (y5 + 1)) (lv' := [(5, .int (y5 + 1)), (0, .ref (ad (20, 0))), (1, .int x1), (2, .int x2), (3, .int y3), (4, .int y4)]) hx hb dX5_goOver_94 hl (k := 5) rfl rfl (by decide) rfl (fun ls hl => ?_)
        refine lv_goto (tgt := 61) hx hb dX5_goOver_97 (by decide) ?_
        exact ih σ12 y3 y4 (y5 + 1) _ _ _ h hP hS (lv_sub hl [1, 2, 3, 4, 5, 0] rfl)
  have L17 : ∀ (n : Nat) (σ : Sg) (y3 : Int32) (y4 : Int32) (y5 : Int32) (H : Heap) (locs : List Loc) (ls : Array Slot), lp_X5_goOver_17 x1 x2 Q n σ y3 y4 y5 → Wo D P ad cy σ H → va_S (Aof P ad) s.heap H locs → lv_has ls 6 [(0, .ref (ad (20, 0))), (1, .int x1), (2, .int x2), (3, .int y3), (4, .int y4), (5, .int y5)] → W p l e (headSpec wsX5_goOver rm_X5_goOver).room s m ([.ref (ad (20, 0)), .int x1, .int x2] : List Value).toArray below meth c H locs 0 0 (MQ below (va_Qv Q (xB D P ad cy) (Aof P ad)) ([.ref (ad (20, 0)), .int x1, .int x2] : List Value).toArray s 0 0 (Aof P ad)) (F0 m 17 ls []) := by
    intro n
    induction n with
    | zero =>
      intro σ y3 y4 y5 H locs ls h
      exact h.elim
    | succ n ih =>
      intro σ y3 y4 y5 H locs ls h hP hS hl
      rw [lp_X5_goOver_17] at h
      refine lv_iload hx hb dX5_goOver_17 (lv_at hl 5 rfl) ?_
      refine lv_iconst (v := 2) hx hb dX5_goOver_19 (by decide) ?_
      refine lv_iload hx hb dX5_goOver_20 (lv_at hl 4 rfl) ?_
      refine lv_imul hx hb dX5_goOver_22 ?_
      refine lv_icmp_ge (tgt := 51) hx hb dX5_goOver_23 (by decide) (fun c5 => ?_) (fun c5 => ?_)
      · have h := h.1 c5
        refine lv_aload_n hx hb dX5_goOver_51 rfl (lv_at hl 0 rfl) ?_
        refine x_get (C := RX5) (T := TX5) (N := 25) (ci := 5) (a := 20) (k := 0) (v := .ref (ad (27, 0))) hx hb hts iw_X5_goOver_X5 hown hK hP (in1m hC (a := 20) (by decide) (by decide)) rfl rfl 7 (by decide) (hts (.fieldLink RX5 30 "PageOwnersModel" "queued" "[I") (by decide +kernel)) (fun _ h9 => h9) rfl dX5_goOver_52 ?_
        refine lv_iload_n hx hb dX5_goOver_55 rfl (lv_at hl 3 rfl) ?_
        refine lv_iconst (v := 0) hx hb dX5_goOver_56 (by decide) ?_
        have hin8 := h.1
        have h := h.2
        refine x_iast (a := 27) (k := 0) (n := 48) hx hb hK hP hAd hS (in1m hC (a := 27) (by decide) (by decide)) (fun _ => rfl) hin8 dX5_goOver_57 (fun H locs hP hS => ?_)
        obtain ⟨σ6, e7⟩ : ∃ z, z = sI σ 27 0 (ix y3) 0 := ⟨_, rfl⟩
        rw [← e7] at hP
        have h := h σ6 e7
        refine lv_iconst (v := 0) hx hb dX5_goOver_58 (by decide) ?_
        refine lv_istore (lv' := [(5, .int 0), (0, .ref (ad (20, 0))), (1, .int x1), (2, .int x2), (3, .int y3), (4, .int y4)]) hx hb dX5_goOver_59 hl (by decide) rfl (fun ls hl => ?_)
        obtain ⟨n15, h⟩ := h
        exact L61 n15 σ6 y3 y4 0 _ _ _ h hP hS (lv_sub hl [1, 2, 3, 4, 5, 0] rfl)
      · have h := h.2 c5
        refine lv_aload_n hx hb dX5_goOver_26 rfl (lv_at hl 0 rfl) ?_
        refine x_get (C := RX5) (T := TX5) (N := 25) (ci := 5) (a := 20) (k := 0) (v := .ref (ad (44, 0))) hx hb hts iw_X5_goOver_X5 hown hK hP (in1m hC (a := 20) (by decide) (by decide)) rfl rfl 24 (by decide) (hts (.fieldLink RX5 78 "PageOwnersModel" "aside" "[I") (by decide +kernel)) (fun _ h9 => h9) rfl dX5_goOver_27 ?_
        refine lv_iload hx hb dX5_goOver_30 (lv_at hl 5 rfl) ?_
        refine lv_aload_n hx hb dX5_goOver_32 rfl (lv_at hl 0 rfl) ?_
        refine x_get (C := RX5) (T := TX5) (N := 25) (ci := 5) (a := 20) (k := 0) (v := .ref (ad (26, 0))) hx hb hts iw_X5_goOver_X5 hown hK hP (in1m hC (a := 20) (by decide) (by decide)) rfl rfl 6 (by decide) (hts (.fieldLink RX5 27 "PageOwnersModel" "queue" "[I") (by decide +kernel)) (fun _ h9 => h9) rfl dX5_goOver_33 ?_
        refine lv_bipush (v := 20) hx hb dX5_goOver_36 (by decide) ?_
        refine lv_iload_n hx hb dX5_goOver_38 rfl (lv_at hl 3 rfl) ?_
        refine lv_imul hx hb dX5_goOver_39 ?_
        refine lv_iload hx hb dX5_goOver_40 (lv_at hl 5 rfl) ?_
        refine lv_iadd hx hb dX5_goOver_42 ?_
        have hin16 := h.1
        have h := h.2
        refine x_iald (a := 26) (k := 0) (n := 960) hx hb hK hP (in1m hC (a := 26) (by decide) (by decide)) (fun _ => rfl) hin16 dX5_goOver_43 ?_
        have hin19 := h.1
        have h := h.2
        refine x_iast (a := 44) (k := 0) (n := 20) hx hb hK hP hAd hS (in1m hC (a := 44) (by decide) (by decide)) (fun _ => rfl) hin19 dX5_goOver_44 (fun H locs hP hS => ?_)
        obtain ⟨σ17, e18⟩ : ∃ z, z = sI σ 44 0 (ix y5) (σ.1 26 0 (ix ((20 * y3) + y5))) := ⟨_, rfl⟩
        rw [← e18] at hP
        have h := h σ17 e18
        refine lv_iinc (v := (y5 + 1)) (lv' := [(5, .int (y5 + 1)), (0, .ref (ad (20, 0))), (1, .int x1), (2, .int x2), (3, .int y3), (4, .int y4)]) hx hb dX5_goOver_45 hl (k := 5) rfl rfl (by decide) rfl (fun ls hl => ?_)
        refine lv_goto (tgt := 17) hx hb dX5_goOver_48 (by decide) ?_
        exact ih σ17 y3 y4 (y5 + 1) _ _ _ h hP hS (lv_sub hl [1, 2, 3, 4, 5, 0] rfl)
  unfold wp_X5_goOver at h
  refine lv_iload_n hx hb dX5_goOver_0 rfl (lv_at hl 1 rfl) ?_
  refine lv_iload_n hx hb dX5_goOver_1 rfl (lv_at hl 2 rfl) ?_
  refine x_cSi (As := [.int x1, .int x2]) (rest := []) ⟨hx, hb, hml, hown, hts⟩ hK hP hS (c_X5_place l hAd hC σ x1 x2 _ h) (va_cwS 2 hts gX5_goOver_X5_place rfl rfl rfl (by decide +kernel) ⟨Nat.le_of_ble_eq_true rfl, Nat.le_of_ble_eq_true rfl⟩) rfl hl.1 rfl (Nat.le_of_ble_eq_true rfl) dX5_goOver_2 ⟨Nat.zero_le _, Nat.zero_le _⟩ (fun r2 σ1 H locs h hP hS => ?_)
  refine lv_istore_n (lv' := [(3, .int r2), (0, .ref (ad (20, 0))), (1, .int x1), (2, .int x2)]) hx hb dX5_goOver_5 rfl hl (by decide) rfl (fun ls hl => ?_)
  refine lv_aload_n hx hb dX5_goOver_6 rfl (lv_at hl 1 rfl) ?_
  refine x_get (C := RX5) (T := TX5) (N := 25) (ci := 5) (a := 20) (k := 0) (v := .ref (ad (27, 0))) hx hb hts iw_X5_goOver_X5 hown hK hP (in1m hC (a := 20) (by decide) (by decide)) rfl rfl 7 (by decide) (hts (.fieldLink RX5 30 "PageOwnersModel" "queued" "[I") (by decide +kernel)) (fun _ h9 => h9) rfl dX5_goOver_7 ?_
  refine lv_iload_n hx hb dX5_goOver_10 rfl (lv_at hl 0 rfl) ?_
  have hin4 := h.1
  have h := h.2
  refine x_iald (a := 27) (k := 0) (n := 48) hx hb hK hP (in1m hC (a := 27) (by decide) (by decide)) (fun _ => rfl) hin4 dX5_goOver_11 ?_
  refine lv_istore (lv' := [(4, .int (σ1.1 27 0 (ix r2))), (3, .int r2), (0, .ref (ad (20, 0))), (1, .int x1), (2, .int x2)]) hx hb dX5_goOver_12 hl (by decide) rfl (fun ls hl => ?_)
  refine lv_iconst (v := 0) hx hb dX5_goOver_14 (by decide) ?_
  refine lv_istore (lv' := [(5, .int 0), (4, .int (σ1.1 27 0 (ix r2))), (3, .int r2), (0, .ref (ad (20, 0))), (1, .int x1), (2, .int x2)]) hx hb dX5_goOver_15 hl (by decide) rfl (fun ls hl => ?_)
  obtain ⟨n20, h⟩ := h
  exact L17 n20 σ1 r2 (σ1.1 27 0 (ix r2)) 0 _ _ _ h hP hS (lv_sub hl [3, 4, 5, 2, 1, 0] rfl)
theorem iw_X5_takeWords_X5 : ∀ w ∈ wsX50, w ∈ wsX5_takeWords := fun _ h => List.mem_cons_of_mem _ (List.mem_append_right _ h)
def lp_X5_takeWords_2 (x1 : Int32) (Q : Sg → Prop) : Nat → Sg → Int32 → Prop
  | 0, _, _ => False
  | n + 1, σ, y2 => ((4 ≤ y2 → Q σ) ∧ (¬ (4 ≤ y2) → (vp_in y2 4 ∧ (vp_in ((4 * x1) + y2) 192 ∧ (∀ σ3, σ3 = sL σ 25 0 (ix ((4 * x1) + y2)) (σ.2.1 43 0 (ix y2)) → lp_X5_takeWords_2 x1 Q n σ3 (y2 + 1))))))
def wp_X5_takeWords (σ : Sg) (x1 : Int32) (Q : Sg → Prop) : Prop := (∃ n6, lp_X5_takeWords_2 x1 Q n6 σ 0)
abbrev rm_X5_takeWords : Room := { frames := 0, cells := 0, slots := 0, locals := 0 }
set_option maxHeartbeats 4000000 in
set_option maxRecDepth 100000 in
theorem c_X5_takeWords (l : Launch) {D : va_G} {P : List (Nat × Nat)} {ad : Nat × Nat → Nat} {cy : Nat → ClassId} (hAd : AdOk P ad) (hC : InM P) (σ : Sg) (x1 : Int32) (Q : Sg → Prop) (h : wp_X5_takeWords σ x1 Q) : Met l yX5_takeWords wsX5_takeWords rm_X5_takeWords (xPc D P ad cy σ [.ref (ad (20, 0)), .int x1]) (va_Qv Q (xB D P ad cy) (Aof P ad)) 0 0 (Aof P ad) := by
  refine Met.ofW (cc := cX5_takeWords) (maxL := 3) (ret := none) (by decide +kernel) rfl ?_
  intro p e s m args below meth c s₁ B hml hv
  obtain ⟨rfl, hP, hK⟩ := hv
  have hx := B.exec
  have hb := B.bytes
  have hr := B.returns
  have hts := atoms_spec (ws := wsX5_takeWords) B.pre
  have hown : s.vm.findClass RX5 = some m.cls := findClass_of_methodNamed B.named
  have hlocks := B.notSynchronized
  have hS : va_S (Aof P ad) s.heap s.heap [] := va_S.rf
  have hl := lv_entry ([.ref (ad (20, 0)), .int x1] : List Value) (n := 3) (Nat.le_of_ble_eq_true rfl)
  rw [lg_entry_eq]
  generalize (lg_sl ([.ref (ad (20, 0)), .int x1] : List Value) ++ List.replicate (3 - (lg_sl ([.ref (ad (20, 0)), .int x1] : List Value)).length) Slot.unset).toArray = ls at hl ⊢
  have hl : lv_has ls 3 [(0, .ref (ad (20, 0))), (1, .int x1)] := hl
  have L2 : ∀ (n : Nat) (σ : Sg) (y2 : Int32) (H : Heap) (locs : List Loc) (ls : Array Slot), lp_X5_takeWords_2 x1 Q n σ y2 → Wo D P ad cy σ H → va_S (Aof P ad) s.heap H locs → lv_has ls 3 [(0, .ref (ad (20, 0))), (1, .int x1), (2, .int y2)] → W p l e (headSpec wsX5_takeWords rm_X5_takeWords).room s m ([.ref (ad (20, 0)), .int x1] : List Value).toArray below meth c H locs 0 0 (MQ below (va_Qv Q (xB D P ad cy) (Aof P ad)) ([.ref (ad (20, 0)), .int x1] : List Value).toArray s 0 0 (Aof P ad)) (F0 m 2 ls []) := by
    intro n
    induction n with
    | zero =>
      intro σ y2 H locs ls h
      exact h.elim
    | succ n ih =>
      intro σ y2 H locs ls h hP hS hl
      rw [lp_X5_takeWords_2] at h
      refine lv_iload_n hx hb dX5_takeWords_2 rfl (lv_at hl 2 rfl) ?_
      refine lv_iconst (v := 4) hx hb dX5_takeWords_3 (by decide) ?_
      refine lv_icmp_ge (tgt := 29) hx hb dX5_takeWords_4 (by decide) (fun c1 => ?_) (fun c1 => ?_)
      · have h := h.1 c1
        exact W.vret hx hb hr (fun t ht hW => ⟨⟨σ, rfl, h, by rw [ht]; exact hP, va_K.moved hW.alike hK⟩, hS.F ht⟩) hS.2.2 dX5_takeWords_29
      · have h := h.2 c1
        refine lv_aload_n hx hb dX5_takeWords_7 rfl (lv_at hl 0 rfl) ?_
        refine x_get (C := RX5) (T := TX5) (N := 25) (ci := 5) (a := 20) (k := 0) (v := .ref (ad (25, 0))) hx hb hts iw_X5_takeWords_X5 hown hK hP (in1m hC (a := 20) (by decide) (by decide)) rfl rfl 5 (by decide) (hts (.fieldLink RX5 23 "PageOwnersModel" "words" "[J") (by decide +kernel)) (fun _ h9 => h9) rfl dX5_takeWords_8 ?_
        refine lv_iconst (v := 4) hx hb dX5_takeWords_11 (by decide) ?_
        refine lv_iload_n hx hb dX5_takeWords_12 rfl (lv_at hl 1 rfl) ?_
        refine lv_imul hx hb dX5_takeWords_13 ?_
        refine lv_iload_n hx hb dX5_takeWords_14 rfl (lv_at hl 2 rfl) ?_
        refine lv_iadd hx hb dX5_takeWords_15 ?_
        refine lv_aload_n hx hb dX5_takeWords_16 rfl (lv_at hl 0 rfl) ?_
        refine x_get (C := RX5) (T := TX5) (N := 25) (ci := 5) (a := 20) (k := 0) (v := .ref (ad (43, 0))) hx hb hts iw_X5_takeWords_X5 hown hK hP (in1m hC (a := 20) (by decide) (by decide)) rfl rfl 23 (by decide) (hts (.fieldLink RX5 75 "PageOwnersModel" "ownWords" "[J") (by decide +kernel)) (fun _ h9 => h9) rfl dX5_takeWords_17 ?_
        refine lv_iload_n hx hb dX5_takeWords_20 rfl (lv_at hl 2 rfl) ?_
        have hin2 := h.1
        have h := h.2
        refine x_lald (a := 43) (k := 0) (n := 4) hx hb hK hP (in1m hC (a := 43) (by decide) (by decide)) (fun _ => rfl) hin2 dX5_takeWords_21 ?_
        have hin5 := h.1
        have h := h.2
        refine x_last (a := 25) (k := 0) (n := 192) hx hb hK hP hAd hS (in1m hC (a := 25) (by decide) (by decide)) (fun _ => rfl) hin5 dX5_takeWords_22 (fun H locs hP hS => ?_)
        obtain ⟨σ3, e4⟩ : ∃ z, z = sL σ 25 0 (ix ((4 * x1) + y2)) (σ.2.1 43 0 (ix y2)) := ⟨_, rfl⟩
        rw [← e4] at hP
        have h := h σ3 e4
        refine lv_iinc (v := (y2 + 1)) (lv' := [(2, .int (y2 + 1)), (0, .ref (ad (20, 0))), (1, .int x1)]) hx hb dX5_takeWords_23 hl (k := 2) rfl rfl (by decide) rfl (fun ls hl => ?_)
        refine lv_goto (tgt := 2) hx hb dX5_takeWords_26 (by decide) ?_
        exact ih σ3 (y2 + 1) _ _ _ h hP hS (lv_sub hl [1, 2, 0] rfl)
  unfold wp_X5_takeWords at h
  refine lv_iconst (v := 0) hx hb dX5_takeWords_0 (by decide) ?_
  refine lv_istore_n (lv' := [(2, .int 0), (0, .ref (ad (20, 0))), (1, .int x1)]) hx hb dX5_takeWords_1 rfl hl (by decide) rfl (fun ls hl => ?_)
  obtain ⟨n6, h⟩ := h
  exact L2 n6 σ 0 _ _ _ h hP hS (lv_sub hl [1, 2, 0] rfl)
theorem iw_X5_deliver_X5 : ∀ w ∈ wsX50, w ∈ wsX5_deliver := fun _ h => List.mem_cons_of_mem _ (List.mem_append_right _ h)
def lp_X5_deliver_47 (x1 : Int32) (Q : Sg → Int32 → Prop) : Nat → Sg → Int32 → Prop
  | 0, _, _ => False
  | n + 1, σ, y2 => ((4 ≤ y2 → (wp_X5_drop σ x1 (fun σ5 => (wp_X5_place σ5 (σ5.1 42 0 (ix 2)) (σ5.1 42 0 (ix 3)) (fun σ8 r9 => (((σ5.1 42 0 (ix 0)) = 1 → (wp_X5_asked σ8 (σ5.1 42 0 (ix 2)) (σ5.1 42 0 (ix 3)) (σ5.1 42 0 (ix 0)) (σ8.1 42 0 (ix 4)) (fun σ12 => Q σ12 (σ5.1 42 0 (ix 0))))) ∧ (¬ ((σ5.1 42 0 (ix 0)) = 1) → (((σ5.1 42 0 (ix 0)) = 2 → (wp_X5_asked σ8 (σ5.1 42 0 (ix 2)) (σ5.1 42 0 (ix 3)) (σ5.1 42 0 (ix 0)) (σ8.1 42 0 (ix 4)) (fun σ16 => Q σ16 (σ5.1 42 0 (ix 0))))) ∧ (¬ ((σ5.1 42 0 (ix 0)) = 2) → (((σ5.1 42 0 (ix 0)) = 3 → (wp_X5_takeWords σ8 r9 (fun σ20 => (vp_in r9 48 ∧ (∀ σ23, σ23 = sI σ20 23 0 (ix r9) (σ5.1 42 0 (ix 1)) → (vp_in (σ5.1 42 0 (ix 2)) 6 ∧ (((σ23.1 34 0 (ix (σ5.1 42 0 (ix 2)))) = 0 → (vp_in r9 48 ∧ (∀ σ28, σ28 = sI σ23 21 0 (ix r9) 1 → (wp_X5_finish σ28 (σ5.1 42 0 (ix 2)) (fun σ31 => Q σ31 (σ5.1 42 0 (ix 0))))))) ∧ (¬ ((σ23.1 34 0 (ix (σ5.1 42 0 (ix 2)))) = 0) → (vp_in r9 48 ∧ (∀ σ34, σ34 = sI σ23 21 0 (ix r9) 0 → (wp_X5_finish σ34 (σ5.1 42 0 (ix 2)) (fun σ37 => Q σ37 (σ5.1 42 0 (ix 0)))))))))))))) ∧ (¬ ((σ5.1 42 0 (ix 0)) = 3) → (((σ5.1 42 0 (ix 0)) = 4 → (wp_X5_takeWords σ8 r9 (fun σ41 => (vp_in r9 48 ∧ (∀ σ44, σ44 = sI σ41 24 0 (ix r9) ((σ41.1 42 0 (ix 5)) &&& ((1 <<< ((σ5.1 42 0 (ix 2)) &&& 31)) ^^^ (-1))) → (vp_in r9 48 ∧ (∀ σ47, σ47 = sI σ44 22 0 (ix r9) 1 → (vp_in r9 48 ∧ (∀ σ50, σ50 = sI σ47 23 0 (ix r9) (σ5.1 42 0 (ix 2)) → (wp_X5_callBack σ50 (σ5.1 42 0 (ix 2)) (fun σ53 r54 => ((r54 = 0 → Q σ53 (σ5.1 42 0 (ix 0))) ∧ (¬ (r54 = 0) → (wp_X5_goOver σ53 (σ5.1 42 0 (ix 2)) (σ5.1 42 0 (ix 3)) (fun σ57 => Q σ57 (σ5.1 42 0 (ix 0))))))))))))))))) ∧ (¬ ((σ5.1 42 0 (ix 0)) = 4) → (((σ5.1 42 0 (ix 0)) = 5 → (vp_in r9 48 ∧ (∀ σ61, σ61 = sI σ8 21 0 (ix r9) 0 → (vp_in r9 48 ∧ (∀ σ64, σ64 = sI σ61 23 0 (ix r9) (σ5.1 42 0 (ix 1)) → (vp_in (σ5.1 42 0 (ix 2)) 6 ∧ (vp_in (σ5.1 42 0 (ix 2)) 6 ∧ (((σ64.1 28 0 (ix (σ5.1 42 0 (ix 2)))) = 1 → (vp_in (σ5.1 42 0 (ix 2)) 6 ∧ (((σ64.1 29 0 (ix (σ5.1 42 0 (ix 2)))) = (σ5.1 42 0 (ix 3)) → (vp_in (σ5.1 42 0 (ix 2)) 6 ∧ ((((σ64.1 34 0 (ix (σ5.1 42 0 (ix 2)))) ||| 1) = 0 ∨ ((σ64.1 34 0 (ix (σ5.1 42 0 (ix 2)))) ||| 1) = 1) ∧ (∀ σ72, σ72 = sI σ64 34 0 (ix (σ5.1 42 0 (ix 2))) ((σ64.1 34 0 (ix (σ5.1 42 0 (ix 2)))) ||| 1) → (wp_X5_send σ72 6 (σ5.1 42 0 (ix 2)) (σ5.1 42 0 (ix 1)) (σ5.1 42 0 (ix 3)) (-1) 0 (fun σ76 => Q σ76 (σ5.1 42 0 (ix 0)))))))) ∧ (¬ ((σ64.1 29 0 (ix (σ5.1 42 0 (ix 2)))) = (σ5.1 42 0 (ix 3))) → (vp_in (σ5.1 42 0 (ix 2)) 6 ∧ ((((σ64.1 34 0 (ix (σ5.1 42 0 (ix 2)))) ||| 0) = 0 ∨ ((σ64.1 34 0 (ix (σ5.1 42 0 (ix 2)))) ||| 0) = 1) ∧ (∀ σ79, σ79 = sI σ64 34 0 (ix (σ5.1 42 0 (ix 2))) ((σ64.1 34 0 (ix (σ5.1 42 0 (ix 2)))) ||| 0) → (wp_X5_send σ79 6 (σ5.1 42 0 (ix 2)) (σ5.1 42 0 (ix 1)) (σ5.1 42 0 (ix 3)) (-1) 0 (fun σ83 => Q σ83 (σ5.1 42 0 (ix 0))))))))))) ∧ (¬ ((σ64.1 28 0 (ix (σ5.1 42 0 (ix 2)))) = 1) → (vp_in (σ5.1 42 0 (ix 2)) 6 ∧ ((((σ64.1 34 0 (ix (σ5.1 42 0 (ix 2)))) ||| 0) = 0 ∨ ((σ64.1 34 0 (ix (σ5.1 42 0 (ix 2)))) ||| 0) = 1) ∧ (∀ σ86, σ86 = sI σ64 34 0 (ix (σ5.1 42 0 (ix 2))) ((σ64.1 34 0 (ix (σ5.1 42 0 (ix 2)))) ||| 0) → (wp_X5_send σ86 6 (σ5.1 42 0 (ix 2)) (σ5.1 42 0 (ix 1)) (σ5.1 42 0 (ix 3)) (-1) 0 (fun σ90 => Q σ90 (σ5.1 42 0 (ix 0)))))))))))))))) ∧ (¬ ((σ5.1 42 0 (ix 0)) = 5) → (vp_in (σ5.1 42 0 (ix 2)) 6 ∧ (vp_in (σ5.1 42 0 (ix 2)) 6 ∧ (∀ σ94, σ94 = sI σ8 33 0 (ix (σ5.1 42 0 (ix 2))) ((σ8.1 33 0 (ix (σ5.1 42 0 (ix 2)))) - 1) → (vp_in (σ5.1 42 0 (ix 2)) 6 ∧ (((σ94.1 33 0 (ix (σ5.1 42 0 (ix 2)))) = 0 → (vp_in r9 48 ∧ (∀ σ99, σ99 = sI σ94 21 0 (ix r9) 2 → (wp_X5_finish σ99 (σ5.1 42 0 (ix 2)) (fun σ102 => (wp_X5_goOver σ102 (σ5.1 42 0 (ix 2)) (σ5.1 42 0 (ix 3)) (fun σ105 => Q σ105 (σ5.1 42 0 (ix 0))))))))) ∧ (¬ ((σ94.1 33 0 (ix (σ5.1 42 0 (ix 2)))) = 0) → Q σ94 (σ5.1 42 0 (ix 0))))))))))))))))))))))) ∧ (¬ (4 ≤ y2) → (vp_in ((4 * x1) + y2) 800 ∧ (vp_in y2 4 ∧ (∀ σ110, σ110 = sL σ 43 0 (ix y2) (σ.2.1 39 0 (ix ((4 * x1) + y2))) → lp_X5_deliver_47 x1 Q n σ110 (y2 + 1))))))
def lp_X5_deliver_16 (x1 : Int32) (Q : Sg → Int32 → Prop) : Nat → Sg → Int32 → Prop
  | 0, _, _ => False
  | n + 1, σ, y2 => ((7 ≤ y2 → (∃ n113, lp_X5_deliver_47 x1 Q n113 σ 0)) ∧ (¬ (7 ≤ y2) → (vp_in ((7 * x1) + y2) 1400 ∧ (vp_in y2 7 ∧ (∀ σ115, σ115 = sI σ 42 0 (ix y2) (σ.1 38 0 (ix ((7 * x1) + y2))) → lp_X5_deliver_16 x1 Q n σ115 (y2 + 1))))))
def wp_X5_deliver (σ : Sg) (x1 : Int32) (Q : Sg → Int32 → Prop) : Prop := ((x1 < 0 → Q σ (-1)) ∧ (¬ (x1 < 0) → ((x1 < (σ.1 20 0 20) → (∃ n118, lp_X5_deliver_16 x1 Q n118 σ 0)) ∧ (¬ (x1 < (σ.1 20 0 20)) → Q σ (-1)))))
abbrev rm_X5_deliver : Room := { frames := 4, cells := 0, slots := 0, locals := 99 }
set_option maxHeartbeats 4000000 in
set_option maxRecDepth 100000 in
theorem c_X5_deliver (l : Launch) {D : va_G} {P : List (Nat × Nat)} {ad : Nat × Nat → Nat} {cy : Nat → ClassId} (hAd : AdOk P ad) (hC : InM P) (σ : Sg) (x1 : Int32) (Q : Sg → Int32 → Prop) (h : wp_X5_deliver σ x1 Q) : Met l yX5_deliver wsX5_deliver rm_X5_deliver (xPc D P ad cy σ [.ref (ad (20, 0)), .int x1]) (va_Qi (fun r σ' => Q σ' r) (xB D P ad cy) (Aof P ad)) 0 0 (Aof P ad) := by
  refine Met.ofW (cc := cX5_deliver) (maxL := 7) (ret := (some .int)) (by decide +kernel) rfl ?_
  intro p e s m args below meth c s₁ B hml hv
  obtain ⟨rfl, hP, hK⟩ := hv
  have hx := B.exec
  have hb := B.bytes
  have hr := B.returns
  have hts := atoms_spec (ws := wsX5_deliver) B.pre
  have hown : s.vm.findClass RX5 = some m.cls := findClass_of_methodNamed B.named
  have hlocks := B.notSynchronized
  have hS : va_S (Aof P ad) s.heap s.heap [] := va_S.rf
  have hl := lv_entry ([.ref (ad (20, 0)), .int x1] : List Value) (n := 7) (Nat.le_of_ble_eq_true rfl)
  rw [lg_entry_eq]
  generalize (lg_sl ([.ref (ad (20, 0)), .int x1] : List Value) ++ List.replicate (7 - (lg_sl ([.ref (ad (20, 0)), .int x1] : List Value)).length) Slot.unset).toArray = ls at hl ⊢
  have hl : lv_has ls 7 [(0, .ref (ad (20, 0))), (1, .int x1)] := hl
  have L47 : ∀ (n : Nat) (σ : Sg) (y2 : Int32) (H : Heap) (locs : List Loc) (ls : Array Slot), lp_X5_deliver_47 x1 Q n σ y2 → Wo D P ad cy σ H → va_S (Aof P ad) s.heap H locs → lv_has ls 7 [(0, .ref (ad (20, 0))), (1, .int x1), (2, .int y2)] → W p l e (headSpec wsX5_deliver rm_X5_deliver).room s m ([.ref (ad (20, 0)), .int x1] : List Value).toArray below meth c H locs 0 0 (MQ below (va_Qi (fun r σ' => Q σ' r) (xB D P ad cy) (Aof P ad)) ([.ref (ad (20, 0)), .int x1] : List Value).toArray s 0 0 (Aof P ad)) (F0 m 47 ls []) := by
    intro n
    induction n with
    | zero =>
      intro σ y2 H locs ls h
      exact h.elim
    | succ n ih =>
      intro σ y2 H locs ls h hP hS hl
      rw [lp_X5_deliver_47] at h
      refine lv_iload_n hx hb dX5_deliver_47 rfl (lv_at hl 2 rfl) ?_
      refine lv_iconst (v := 4) hx hb dX5_deliver_48 (by decide) ?_
      refine lv_icmp_ge (tgt := 74) hx hb dX5_deliver_49 (by decide) (fun c4 => ?_) (fun c4 => ?_)
      · have h := h.1 c4
        refine lv_aload_n hx hb dX5_deliver_74 rfl (lv_at hl 0 rfl) ?_
        refine lv_iload_n hx hb dX5_deliver_75 rfl (lv_at hl 1 rfl) ?_
        refine x_cVv (C := RX5) (As := [.int x1]) (rest := []) ⟨hx, hb, hml, hown, hts⟩ hK hP hS (c_X5_drop l hAd hC σ x1 _ h) (cwV 1 hts gX5_deliver_X5_drop rfl rfl rfl (by decide +kernel) ⟨Nat.le_of_ble_eq_true rfl, Nat.le_of_ble_eq_true rfl⟩) (x_recv hK hP (in1m hC (a := 20) (by decide) (by decide)) rfl rfl) rfl hl.1 rfl (Nat.le_of_ble_eq_true rfl) dX5_deliver_76 ⟨Nat.zero_le _, Nat.zero_le _⟩ (fun σ5 H locs h hP hS => ?_)
        refine lv_aload_n hx hb dX5_deliver_79 rfl (lv_at hl 0 rfl) ?_
        refine x_get (C := RX5) (T := TX5) (N := 25) (ci := 5) (a := 20) (k := 0) (v := .ref (ad (42, 0))) hx hb hts iw_X5_deliver_X5 hown hK hP (in1m hC (a := 20) (by decide) (by decide)) rfl rfl 22 (by decide) (hts (.fieldLink RX5 72 "PageOwnersModel" "own" "[I") (by decide +kernel)) (fun _ h9 => h9) rfl dX5_deliver_80 ?_
        refine lv_iconst (v := 0) hx hb dX5_deliver_83 (by decide) ?_
        refine x_iald (a := 42) (k := 0) (n := 7) hx hb hK hP (in1m hC (a := 42) (by decide) (by decide)) (fun _ => rfl) (by unfold vp_in; decide) dX5_deliver_84 ?_
        refine lv_istore_n (lv' := [(2, .int (σ5.1 42 0 (ix 0))), (0, .ref (ad (20, 0))), (1, .int x1)]) hx hb dX5_deliver_85 rfl hl (by decide) rfl (fun ls hl => ?_)
        refine lv_aload_n hx hb dX5_deliver_86 rfl (lv_at hl 1 rfl) ?_
        refine x_get (C := RX5) (T := TX5) (N := 25) (ci := 5) (a := 20) (k := 0) (v := .ref (ad (42, 0))) hx hb hts iw_X5_deliver_X5 hown hK hP (in1m hC (a := 20) (by decide) (by decide)) rfl rfl 22 (by decide) (hts (.fieldLink RX5 72 "PageOwnersModel" "own" "[I") (by decide +kernel)) (fun _ h9 => h9) rfl dX5_deliver_87 ?_
        refine lv_iconst (v := 1) hx hb dX5_deliver_90 (by decide) ?_
        refine x_iald (a := 42) (k := 0) (n := 7) hx hb hK hP (in1m hC (a := 42) (by decide) (by decide)) (fun _ => rfl) (by unfold vp_in; decide) dX5_deliver_91 ?_
        refine lv_istore_n (lv' := [(3, .int (σ5.1 42 0 (ix 1))), (2, .int (σ5.1 42 0 (ix 0))), (0, .ref (ad (20, 0))), (1, .int x1)]) hx hb dX5_deliver_92 rfl hl (by decide) rfl (fun ls hl => ?_)
        refine lv_aload_n hx hb dX5_deliver_93 rfl (lv_at hl 2 rfl) ?_
        refine x_get (C := RX5) (T := TX5) (N := 25) (ci := 5) (a := 20) (k := 0) (v := .ref (ad (42, 0))) hx hb hts iw_X5_deliver_X5 hown hK hP (in1m hC (a := 20) (by decide) (by decide)) rfl rfl 22 (by decide) (hts (.fieldLink RX5 72 "PageOwnersModel" "own" "[I") (by decide +kernel)) (fun _ h9 => h9) rfl dX5_deliver_94 ?_
        refine lv_iconst (v := 2) hx hb dX5_deliver_97 (by decide) ?_
        refine x_iald (a := 42) (k := 0) (n := 7) hx hb hK hP (in1m hC (a := 42) (by decide) (by decide)) (fun _ => rfl) (by unfold vp_in; decide) dX5_deliver_98 ?_
        refine lv_istore (lv' := [(4, .int (σ5.1 42 0 (ix 2))), (3, .int (σ5.1 42 0 (ix 1))), (2, .int (σ5.1 42 0 (ix 0))), (0, .ref (ad (20, 0))), (1, .int x1)]) hx hb dX5_deliver_99 hl (by decide) rfl (fun ls hl => ?_)
        refine lv_aload_n hx hb dX5_deliver_101 rfl (lv_at hl 3 rfl) ?_
        refine x_get (C := RX5) (T := TX5) (N := 25) (ci := 5) (a := 20) (k := 0) (v := .ref (ad (42, 0))) hx hb hts iw_X5_deliver_X5 hown hK hP (in1m hC (a := 20) (by decide) (by decide)) rfl rfl 22 (by decide) (hts (.fieldLink RX5 72 "PageOwnersModel" "own" "[I") (by decide +kernel)) (fun _ h9 => h9) rfl dX5_deliver_102 ?_
        refine lv_iconst (v := 3) hx hb dX5_deliver_105 (by decide) ?_
        refine x_iald (a := 42) (k := 0) (n := 7) hx hb hK hP (in1m hC (a := 42) (by decide) (by decide)) (fun _ => rfl) (by unfold vp_in; decide) dX5_deliver_106 ?_
        refine lv_istore (lv' := [(5, .int (σ5.1 42 0 (ix 3))), (4, .int (σ5.1 42 0 (ix 2))), (3, .int (σ5.1 42 0 (ix 1))), (2, .int (σ5.1 42 0 (ix 0))), (0, .ref (ad (20, 0))), (1, .int x1)]) hx hb dX5_deliver_107 hl (by decide) rfl (fun ls hl => ?_)
        refine lv_iload hx hb dX5_deliver_109 (lv_at hl 1 rfl) ?_
        refine lv_iload hx hb dX5_deliver_111 (lv_at hl 0 rfl) ?_
        refine x_cSi (As := [.int (σ5.1 42 0 (ix 2)), .int (σ5.1 42 0 (ix 3))]) (rest := []) ⟨hx, hb, hml, hown, hts⟩ hK hP hS (c_X5_place l hAd hC σ5 (σ5.1 42 0 (ix 2)) (σ5.1 42 0 (ix 3)) _ h) (va_cwS 2 hts gX5_deliver_X5_place rfl rfl rfl (by decide +kernel) ⟨Nat.le_of_ble_eq_true rfl, Nat.le_of_ble_eq_true rfl⟩) rfl hl.1 rfl (Nat.le_of_ble_eq_true rfl) dX5_deliver_113 ⟨Nat.zero_le _, Nat.zero_le _⟩ (fun r9 σ8 H locs h hP hS => ?_)
        refine lv_istore (lv' := [(6, .int r9), (5, .int (σ5.1 42 0 (ix 3))), (4, .int (σ5.1 42 0 (ix 2))), (3, .int (σ5.1 42 0 (ix 1))), (2, .int (σ5.1 42 0 (ix 0))), (0, .ref (ad (20, 0))), (1, .int x1)]) hx hb dX5_deliver_116 hl (by decide) rfl (fun ls hl => ?_)
        refine lv_iload_n hx hb dX5_deliver_118 rfl (lv_at hl 4 rfl) ?_
        by_cases c11 : (σ5.1 42 0 (ix 0)) = 1
        · have h := h.1 c11
          refine lv_tableIn (off := 33) (tgt := 152) hx hb dX5_deliver_119 (by rw [c11]; decide) (by rw [c11]; decide) (by rw [c11]; decide +kernel) (by decide) ?_
          refine lv_aload_n hx hb dX5_deliver_152 rfl (lv_at hl 5 rfl) ?_
          refine lv_iload hx hb dX5_deliver_153 (lv_at hl 2 rfl) ?_
          refine lv_iload hx hb dX5_deliver_155 (lv_at hl 1 rfl) ?_
          refine lv_iload_n hx hb dX5_deliver_157 rfl (lv_at hl 4 rfl) ?_
          refine lv_aload_n hx hb dX5_deliver_158 rfl (lv_at hl 5 rfl) ?_
          refine x_get (C := RX5) (T := TX5) (N := 25) (ci := 5) (a := 20) (k := 0) (v := .ref (ad (42, 0))) hx hb hts iw_X5_deliver_X5 hown hK hP (in1m hC (a := 20) (by decide) (by decide)) rfl rfl 22 (by decide) (hts (.fieldLink RX5 72 "PageOwnersModel" "own" "[I") (by decide +kernel)) (fun _ h9 => h9) rfl dX5_deliver_159 ?_
          refine lv_iconst (v := 4) hx hb dX5_deliver_162 (by decide) ?_
          refine x_iald (a := 42) (k := 0) (n := 7) hx hb hK hP (in1m hC (a := 42) (by decide) (by decide)) (fun _ => rfl) (by unfold vp_in; decide) dX5_deliver_163 ?_
          refine x_cVv (C := RX5) (As := [.int (σ5.1 42 0 (ix 2)), .int (σ5.1 42 0 (ix 3)), .int (σ5.1 42 0 (ix 0)), .int (σ8.1 42 0 (ix 4))]) (rest := []) ⟨hx, hb, hml, hown, hts⟩ hK hP hS (c_X5_asked l hAd hC σ8 (σ5.1 42 0 (ix 2)) (σ5.1 42 0 (ix 3)) (σ5.1 42 0 (ix 0)) (σ8.1 42 0 (ix 4)) _ h) (cwV 4 hts gX5_deliver_X5_asked rfl rfl rfl (by decide +kernel) ⟨Nat.le_of_ble_eq_true rfl, Nat.le_of_ble_eq_true rfl⟩) (x_recv hK hP (in1m hC (a := 20) (by decide) (by decide)) rfl rfl) rfl hl.1 rfl (Nat.le_of_ble_eq_true rfl) dX5_deliver_164 ⟨Nat.zero_le _, Nat.zero_le _⟩ (fun σ12 H locs h hP hS => ?_)
          refine lv_goto (tgt := 391) hx hb dX5_deliver_167 (by decide) ?_
          refine lv_iload_n hx hb dX5_deliver_391 rfl (lv_at hl 4 rfl) ?_
          exact W.iret (v := (σ5.1 42 0 (ix 0))) hx hb hr (fun t ht hW => ⟨⟨(σ5.1 42 0 (ix 0)), σ12, rfl, h, by rw [ht]; exact hP, va_K.moved hW.alike hK⟩, hS.F ht⟩) hS.2.2 dX5_deliver_392
        · have h := h.2 c11
          by_cases c15 : (σ5.1 42 0 (ix 0)) = 2
          · have h := h.1 c15
            refine lv_tableIn (off := 33) (tgt := 152) hx hb dX5_deliver_119 (by rw [c15]; decide) (by rw [c15]; decide) (by rw [c15]; decide +kernel) (by decide) ?_
            refine lv_aload_n hx hb dX5_deliver_152 rfl (lv_at hl 5 rfl) ?_
            refine lv_iload hx hb dX5_deliver_153 (lv_at hl 2 rfl) ?_
            refine lv_iload hx hb dX5_deliver_155 (lv_at hl 1 rfl) ?_
            refine lv_iload_n hx hb dX5_deliver_157 rfl (lv_at hl 4 rfl) ?_
            refine lv_aload_n hx hb dX5_deliver_158 rfl (lv_at hl 5 rfl) ?_
            refine x_get (C := RX5) (T := TX5) (N := 25) (ci := 5) (a := 20) (k := 0) (v := .ref (ad (42, 0))) hx hb hts iw_X5_deliver_X5 hown hK hP (in1m hC (a := 20) (by decide) (by decide)) rfl rfl 22 (by decide) (hts (.fieldLink RX5 72 "PageOwnersModel" "own" "[I") (by decide +kernel)) (fun _ h9 => h9) rfl dX5_deliver_159 ?_
            refine lv_iconst (v := 4) hx hb dX5_deliver_162 (by decide) ?_
            refine x_iald (a := 42) (k := 0) (n := 7) hx hb hK hP (in1m hC (a := 42) (by decide) (by decide)) (fun _ => rfl) (by unfold vp_in; decide) dX5_deliver_163 ?_
            refine x_cVv (C := RX5) (As := [.int (σ5.1 42 0 (ix 2)), .int (σ5.1 42 0 (ix 3)), .int (σ5.1 42 0 (ix 0)), .int (σ8.1 42 0 (ix 4))]) (rest := []) ⟨hx, hb, hml, hown, hts⟩ hK hP hS (c_X5_asked l hAd hC σ8 (σ5.1 42 0 (ix 2)) (σ5.1 42 0 (ix 3)) (σ5.1 42 0 (ix 0)) (σ8.1 42 0 (ix 4)) _ h) (cwV 4 hts gX5_deliver_X5_asked rfl rfl rfl (by decide +kernel) ⟨Nat.le_of_ble_eq_true rfl, Nat.le_of_ble_eq_true rfl⟩) (x_recv hK hP (in1m hC (a := 20) (by decide) (by decide)) rfl rfl) rfl hl.1 rfl (Nat.le_of_ble_eq_true rfl) dX5_deliver_164 ⟨Nat.zero_le _, Nat.zero_le _⟩ (fun σ16 H locs h hP hS => ?_)
            refine lv_goto (tgt := 391) hx hb dX5_deliver_167 (by decide) ?_
            refine lv_iload_n hx hb dX5_deliver_391 rfl (lv_at hl 4 rfl) ?_
            exact W.iret (v := (σ5.1 42 0 (ix 0))) hx hb hr (fun t ht hW => ⟨⟨(σ5.1 42 0 (ix 0)), σ16, rfl, h, by rw [ht]; exact hP, va_K.moved hW.alike hK⟩, hS.F ht⟩) hS.2.2 dX5_deliver_392
          · have h := h.2 c15
            by_cases c19 : (σ5.1 42 0 (ix 0)) = 3
            · have h := h.1 c19
              refine lv_tableIn (off := 51) (tgt := 170) hx hb dX5_deliver_119 (by rw [c19]; decide) (by rw [c19]; decide) (by rw [c19]; decide +kernel) (by decide) ?_
              refine lv_aload_n hx hb dX5_deliver_170 rfl (lv_at hl 5 rfl) ?_
              refine lv_iload hx hb dX5_deliver_171 (lv_at hl 0 rfl) ?_
              refine x_cVv (C := RX5) (As := [.int r9]) (rest := []) ⟨hx, hb, hml, hown, hts⟩ hK hP hS (c_X5_takeWords l hAd hC σ8 r9 _ h) (cwV 1 hts gX5_deliver_X5_takeWords rfl rfl rfl (by decide +kernel) ⟨Nat.le_of_ble_eq_true rfl, Nat.le_of_ble_eq_true rfl⟩) (x_recv hK hP (in1m hC (a := 20) (by decide) (by decide)) rfl rfl) rfl hl.1 rfl (Nat.le_of_ble_eq_true rfl) dX5_deliver_173 ⟨Nat.zero_le _, Nat.zero_le _⟩ (fun σ20 H locs h hP hS => ?_)
              refine lv_aload_n hx hb dX5_deliver_176 rfl (lv_at hl 5 rfl) ?_
              refine x_get (C := RX5) (T := TX5) (N := 25) (ci := 5) (a := 20) (k := 0) (v := .ref (ad (23, 0))) hx hb hts iw_X5_deliver_X5 hown hK hP (in1m hC (a := 20) (by decide) (by decide)) rfl rfl 3 (by decide) (hts (.fieldLink RX5 17 "PageOwnersModel" "guess" "[I") (by decide +kernel)) (fun _ h9 => h9) rfl dX5_deliver_177 ?_
              refine lv_iload hx hb dX5_deliver_180 (lv_at hl 0 rfl) ?_
              refine lv_iload_n hx hb dX5_deliver_182 rfl (lv_at hl 3 rfl) ?_
              have hin25 := h.1
              have h := h.2
              refine x_iast (a := 23) (k := 0) (n := 48) hx hb hK hP hAd hS (in1m hC (a := 23) (by decide) (by decide)) (fun _ => rfl) hin25 dX5_deliver_183 (fun H locs hP hS => ?_)
              obtain ⟨σ23, e24⟩ : ∃ z, z = sI σ20 23 0 (ix r9) (σ5.1 42 0 (ix 1)) := ⟨_, rfl⟩
              rw [← e24] at hP
              have h := h σ23 e24
              refine lv_aload_n hx hb dX5_deliver_184 rfl (lv_at hl 5 rfl) ?_
              refine x_get (C := RX5) (T := TX5) (N := 25) (ci := 5) (a := 20) (k := 0) (v := .ref (ad (21, 0))) hx hb hts iw_X5_deliver_X5 hown hK hP (in1m hC (a := 20) (by decide) (by decide)) rfl rfl 1 (by decide) (hts (.fieldLink RX5 7 "PageOwnersModel" "access" "[I") (by decide +kernel)) (fun _ h9 => h9) rfl dX5_deliver_185 ?_
              refine lv_iload hx hb dX5_deliver_188 (lv_at hl 0 rfl) ?_
              refine lv_aload_n hx hb dX5_deliver_190 rfl (lv_at hl 5 rfl) ?_
              refine x_get (C := RX5) (T := TX5) (N := 25) (ci := 5) (a := 20) (k := 0) (v := .ref (ad (34, 0))) hx hb hts iw_X5_deliver_X5 hown hK hP (in1m hC (a := 20) (by decide) (by decide)) rfl rfl 14 (by decide) (hts (.fieldLink RX5 51 "PageOwnersModel" "wasCalled" "[Z") (by decide +kernel)) (fun _ h9 => h9) rfl dX5_deliver_191 ?_
              refine lv_iload hx hb dX5_deliver_194 (lv_at hl 2 rfl) ?_
              have hin26 := h.1
              have h := h.2
              refine x_zald (a := 34) (k := 0) (n := 6) hx hb hK hP (in1m hC (a := 34) (by decide) (by decide)) (fun _ => rfl) hin26 dX5_deliver_196 ?_
              refine lv_if_eq (tgt := 204) hx hb dX5_deliver_197 (by decide) (fun c27 => ?_) (fun c27 => ?_)
              · have h := h.1 c27
                refine lv_iconst (v := 1) hx hb dX5_deliver_204 (by decide) ?_
                have hin30 := h.1
                have h := h.2
                refine x_iast (a := 21) (k := 0) (n := 48) hx hb hK hP hAd hS (in1m hC (a := 21) (by decide) (by decide)) (fun _ => rfl) hin30 dX5_deliver_205 (fun H locs hP hS => ?_)
                obtain ⟨σ28, e29⟩ : ∃ z, z = sI σ23 21 0 (ix r9) 1 := ⟨_, rfl⟩
                rw [← e29] at hP
                have h := h σ28 e29
                refine lv_aload_n hx hb dX5_deliver_206 rfl (lv_at hl 5 rfl) ?_
                refine lv_iload hx hb dX5_deliver_207 (lv_at hl 2 rfl) ?_
                refine x_cVv (C := RX5) (As := [.int (σ5.1 42 0 (ix 2))]) (rest := []) ⟨hx, hb, hml, hown, hts⟩ hK hP hS (c_X5_finish l hAd hC σ28 (σ5.1 42 0 (ix 2)) _ h) (cwV 1 hts gX5_deliver_X5_finish rfl rfl rfl (by decide +kernel) ⟨Nat.le_of_ble_eq_true rfl, Nat.le_of_ble_eq_true rfl⟩) (x_recv hK hP (in1m hC (a := 20) (by decide) (by decide)) rfl rfl) rfl hl.1 rfl (Nat.le_of_ble_eq_true rfl) dX5_deliver_209 ⟨Nat.zero_le _, Nat.zero_le _⟩ (fun σ31 H locs h hP hS => ?_)
                refine lv_goto (tgt := 391) hx hb dX5_deliver_212 (by decide) ?_
                refine lv_iload_n hx hb dX5_deliver_391 rfl (lv_at hl 4 rfl) ?_
                exact W.iret (v := (σ5.1 42 0 (ix 0))) hx hb hr (fun t ht hW => ⟨⟨(σ5.1 42 0 (ix 0)), σ31, rfl, h, by rw [ht]; exact hP, va_K.moved hW.alike hK⟩, hS.F ht⟩) hS.2.2 dX5_deliver_392
              · have h := h.2 c27
                refine lv_iconst (v := 0) hx hb dX5_deliver_200 (by decide) ?_
                refine lv_goto (tgt := 205) hx hb dX5_deliver_201 (by decide) ?_
                have hin36 := h.1
                have h := h.2
                refine x_iast (a := 21) (k := 0) (n := 48) hx hb hK hP hAd hS (in1m hC (a := 21) (by decide) (by decide)) (fun _ => rfl) hin36 dX5_deliver_205 (fun H locs hP hS => ?_)
                obtain ⟨σ34, e35⟩ : ∃ z, z = sI σ23 21 0 (ix r9) 0 := ⟨_, rfl⟩
                rw [← e35] at hP
                have h := h σ34 e35
                refine lv_aload_n hx hb dX5_deliver_206 rfl (lv_at hl 5 rfl) ?_
                refine lv_iload hx hb dX5_deliver_207 (lv_at hl 2 rfl) ?_
                refine x_cVv (C := RX5) (As := [.int (σ5.1 42 0 (ix 2))]) (rest := []) ⟨hx, hb, hml, hown, hts⟩ hK hP hS (c_X5_finish l hAd hC σ34 (σ5.1 42 0 (ix 2)) _ h) (cwV 1 hts gX5_deliver_X5_finish rfl rfl rfl (by decide +kernel) ⟨Nat.le_of_ble_eq_true rfl, Nat.le_of_ble_eq_true rfl⟩) (x_recv hK hP (in1m hC (a := 20) (by decide) (by decide)) rfl rfl) rfl hl.1 rfl (Nat.le_of_ble_eq_true rfl) dX5_deliver_209 ⟨Nat.zero_le _, Nat.zero_le _⟩ (fun σ37 H locs h hP hS => ?_)
                refine lv_goto (tgt := 391) hx hb dX5_deliver_212 (by decide) ?_
                refine lv_iload_n hx hb dX5_deliver_391 rfl (lv_at hl 4 rfl) ?_
                exact W.iret (v := (σ5.1 42 0 (ix 0))) hx hb hr (fun t ht hW => ⟨⟨(σ5.1 42 0 (ix 0)), σ37, rfl, h, by rw [ht]; exact hP, va_K.moved hW.alike hK⟩, hS.F ht⟩) hS.2.2 dX5_deliver_392
            · have h := h.2 c19
              by_cases c40 : (σ5.1 42 0 (ix 0)) = 4
              · have h := h.1 c40
                refine lv_tableIn (off := 96) (tgt := 215) hx hb dX5_deliver_119 (by rw [c40]; decide) (by rw [c40]; decide) (by rw [c40]; decide +kernel) (by decide) ?_
                refine lv_aload_n hx hb dX5_deliver_215 rfl (lv_at hl 5 rfl) ?_
                refine lv_iload hx hb dX5_deliver_216 (lv_at hl 0 rfl) ?_
                refine x_cVv (C := RX5) (As := [.int r9]) (rest := []) ⟨hx, hb, hml, hown, hts⟩ hK hP hS (c_X5_takeWords l hAd hC σ8 r9 _ h) (cwV 1 hts gX5_deliver_X5_takeWords rfl rfl rfl (by decide +kernel) ⟨Nat.le_of_ble_eq_true rfl, Nat.le_of_ble_eq_true rfl⟩) (x_recv hK hP (in1m hC (a := 20) (by decide) (by decide)) rfl rfl) rfl hl.1 rfl (Nat.le_of_ble_eq_true rfl) dX5_deliver_218 ⟨Nat.zero_le _, Nat.zero_le _⟩ (fun σ41 H locs h hP hS => ?_)
                refine lv_aload_n hx hb dX5_deliver_221 rfl (lv_at hl 5 rfl) ?_
                refine x_get (C := RX5) (T := TX5) (N := 25) (ci := 5) (a := 20) (k := 0) (v := .ref (ad (24, 0))) hx hb hts iw_X5_deliver_X5 hown hK hP (in1m hC (a := 20) (by decide) (by decide)) rfl rfl 4 (by decide) (hts (.fieldLink RX5 20 "PageOwnersModel" "copies" "[I") (by decide +kernel)) (fun _ h9 => h9) rfl dX5_deliver_222 ?_
                refine lv_iload hx hb dX5_deliver_225 (lv_at hl 0 rfl) ?_
                refine lv_aload_n hx hb dX5_deliver_227 rfl (lv_at hl 5 rfl) ?_
                refine x_get (C := RX5) (T := TX5) (N := 25) (ci := 5) (a := 20) (k := 0) (v := .ref (ad (42, 0))) hx hb hts iw_X5_deliver_X5 hown hK hP (in1m hC (a := 20) (by decide) (by decide)) rfl rfl 22 (by decide) (hts (.fieldLink RX5 72 "PageOwnersModel" "own" "[I") (by decide +kernel)) (fun _ h9 => h9) rfl dX5_deliver_228 ?_
                refine lv_iconst (v := 5) hx hb dX5_deliver_231 (by decide) ?_
                refine x_iald (a := 42) (k := 0) (n := 7) hx hb hK hP (in1m hC (a := 42) (by decide) (by decide)) (fun _ => rfl) (by unfold vp_in; decide) dX5_deliver_232 ?_
                refine lv_iconst (v := 1) hx hb dX5_deliver_233 (by decide) ?_
                refine lv_iload hx hb dX5_deliver_234 (lv_at hl 2 rfl) ?_
                refine lv_ishl hx hb dX5_deliver_236 ?_
                refine lv_iconst (v := (-1)) hx hb dX5_deliver_237 (by decide) ?_
                refine lv_ixor hx hb dX5_deliver_238 ?_
                refine lv_iand hx hb dX5_deliver_239 ?_
                have hin46 := h.1
                have h := h.2
                refine x_iast (a := 24) (k := 0) (n := 48) hx hb hK hP hAd hS (in1m hC (a := 24) (by decide) (by decide)) (fun _ => rfl) hin46 dX5_deliver_240 (fun H locs hP hS => ?_)
                obtain ⟨σ44, e45⟩ : ∃ z, z = sI σ41 24 0 (ix r9) ((σ41.1 42 0 (ix 5)) &&& ((1 <<< ((σ5.1 42 0 (ix 2)) &&& 31)) ^^^ (-1))) := ⟨_, rfl⟩
                rw [← e45] at hP
                have h := h σ44 e45
                refine lv_aload_n hx hb dX5_deliver_241 rfl (lv_at hl 5 rfl) ?_
                refine x_get (C := RX5) (T := TX5) (N := 25) (ci := 5) (a := 20) (k := 0) (v := .ref (ad (22, 0))) hx hb hts iw_X5_deliver_X5 hown hK hP (in1m hC (a := 20) (by decide) (by decide)) rfl rfl 2 (by decide) (hts (.fieldLink RX5 13 "PageOwnersModel" "isOwner" "[Z") (by decide +kernel)) (fun _ h9 => h9) rfl dX5_deliver_242 ?_
                refine lv_iload hx hb dX5_deliver_245 (lv_at hl 0 rfl) ?_
                refine lv_iconst (v := 1) hx hb dX5_deliver_247 (by decide) ?_
                have hin49 := h.1
                have h := h.2
                refine x_zast (a := 22) (k := 0) (n := 48) hx hb hK hP hAd hS (in1m hC (a := 22) (by decide) (by decide)) (fun _ => rfl) hin49 (by decide) dX5_deliver_248 (fun H locs hP hS => ?_)
                obtain ⟨σ47, e48⟩ : ∃ z, z = sI σ44 22 0 (ix r9) 1 := ⟨_, rfl⟩
                rw [← e48] at hP
                have h := h σ47 e48
                refine lv_aload_n hx hb dX5_deliver_249 rfl (lv_at hl 5 rfl) ?_
                refine x_get (C := RX5) (T := TX5) (N := 25) (ci := 5) (a := 20) (k := 0) (v := .ref (ad (23, 0))) hx hb hts iw_X5_deliver_X5 hown hK hP (in1m hC (a := 20) (by decide) (by decide)) rfl rfl 3 (by decide) (hts (.fieldLink RX5 17 "PageOwnersModel" "guess" "[I") (by decide +kernel)) (fun _ h9 => h9) rfl dX5_deliver_250 ?_
                refine lv_iload hx hb dX5_deliver_253 (lv_at hl 0 rfl) ?_
                refine lv_iload hx hb dX5_deliver_255 (lv_at hl 2 rfl) ?_
                have hin52 := h.1
                have h := h.2
                refine x_iast (a := 23) (k := 0) (n := 48) hx hb hK hP hAd hS (in1m hC (a := 23) (by decide) (by decide)) (fun _ => rfl) hin52 dX5_deliver_257 (fun H locs hP hS => ?_)
                obtain ⟨σ50, e51⟩ : ∃ z, z = sI σ47 23 0 (ix r9) (σ5.1 42 0 (ix 2)) := ⟨_, rfl⟩
                rw [← e51] at hP
                have h := h σ50 e51
                refine lv_aload_n hx hb dX5_deliver_258 rfl (lv_at hl 5 rfl) ?_
                refine lv_iload hx hb dX5_deliver_259 (lv_at hl 2 rfl) ?_
                refine x_cVi (C := RX5) (As := [.int (σ5.1 42 0 (ix 2))]) (rest := []) ⟨hx, hb, hml, hown, hts⟩ hK hP hS (c_X5_callBack l hAd hC σ50 (σ5.1 42 0 (ix 2)) _ h) (cwV 1 hts gX5_deliver_X5_callBack rfl rfl rfl (by decide +kernel) ⟨Nat.le_of_ble_eq_true rfl, Nat.le_of_ble_eq_true rfl⟩) (x_recv hK hP (in1m hC (a := 20) (by decide) (by decide)) rfl rfl) rfl hl.1 rfl (Nat.le_of_ble_eq_true rfl) dX5_deliver_261 ⟨Nat.zero_le _, Nat.zero_le _⟩ (fun r54 σ53 H locs h hP hS => ?_)
                refine lv_if_eq (tgt := 391) hx hb dX5_deliver_264 (by decide) (fun c56 => ?_) (fun c56 => ?_)
                · have h := h.1 c56
                  refine lv_iload_n hx hb dX5_deliver_391 rfl (lv_at hl 4 rfl) ?_
                  exact W.iret (v := (σ5.1 42 0 (ix 0))) hx hb hr (fun t ht hW => ⟨⟨(σ5.1 42 0 (ix 0)), σ53, rfl, h, by rw [ht]; exact hP, va_K.moved hW.alike hK⟩, hS.F ht⟩) hS.2.2 dX5_deliver_392
                · have h := h.2 c56
                  refine lv_aload_n hx hb dX5_deliver_267 rfl (lv_at hl 5 rfl) ?_
                  refine lv_iload hx hb dX5_deliver_268 (lv_at hl 2 rfl) ?_
                  refine lv_iload hx hb dX5_deliver_270 (lv_at hl 1 rfl) ?_
                  refine x_cVv (C := RX5) (As := [.int (σ5.1 42 0 (ix 2)), .int (σ5.1 42 0 (ix 3))]) (rest := []) ⟨hx, hb, hml, hown, hts⟩ hK hP hS (c_X5_goOver l hAd hC σ53 (σ5.1 42 0 (ix 2)) (σ5.1 42 0 (ix 3)) _ h) (cwV 2 hts gX5_deliver_X5_goOver rfl rfl rfl (by decide +kernel) ⟨Nat.le_of_ble_eq_true rfl, Nat.le_of_ble_eq_true rfl⟩) (x_recv hK hP (in1m hC (a := 20) (by decide) (by decide)) rfl rfl) rfl hl.1 rfl (Nat.le_of_ble_eq_true rfl) dX5_deliver_272 ⟨Nat.zero_le _, Nat.zero_le _⟩ (fun σ57 H locs h hP hS => ?_)
                  refine lv_goto (tgt := 391) hx hb dX5_deliver_275 (by decide) ?_
                  refine lv_iload_n hx hb dX5_deliver_391 rfl (lv_at hl 4 rfl) ?_
                  exact W.iret (v := (σ5.1 42 0 (ix 0))) hx hb hr (fun t ht hW => ⟨⟨(σ5.1 42 0 (ix 0)), σ57, rfl, h, by rw [ht]; exact hP, va_K.moved hW.alike hK⟩, hS.F ht⟩) hS.2.2 dX5_deliver_392
              · have h := h.2 c40
                by_cases c60 : (σ5.1 42 0 (ix 0)) = 5
                · have h := h.1 c60
                  refine lv_tableIn (off := 159) (tgt := 278) hx hb dX5_deliver_119 (by rw [c60]; decide) (by rw [c60]; decide) (by rw [c60]; decide +kernel) (by decide) ?_
                  refine lv_aload_n hx hb dX5_deliver_278 rfl (lv_at hl 5 rfl) ?_
                  refine x_get (C := RX5) (T := TX5) (N := 25) (ci := 5) (a := 20) (k := 0) (v := .ref (ad (21, 0))) hx hb hts iw_X5_deliver_X5 hown hK hP (in1m hC (a := 20) (by decide) (by decide)) rfl rfl 1 (by decide) (hts (.fieldLink RX5 7 "PageOwnersModel" "access" "[I") (by decide +kernel)) (fun _ h9 => h9) rfl dX5_deliver_279 ?_
                  refine lv_iload hx hb dX5_deliver_282 (lv_at hl 0 rfl) ?_
                  refine lv_iconst (v := 0) hx hb dX5_deliver_284 (by decide) ?_
                  have hin63 := h.1
                  have h := h.2
                  refine x_iast (a := 21) (k := 0) (n := 48) hx hb hK hP hAd hS (in1m hC (a := 21) (by decide) (by decide)) (fun _ => rfl) hin63 dX5_deliver_285 (fun H locs hP hS => ?_)
                  obtain ⟨σ61, e62⟩ : ∃ z, z = sI σ8 21 0 (ix r9) 0 := ⟨_, rfl⟩
                  rw [← e62] at hP
                  have h := h σ61 e62
                  refine lv_aload_n hx hb dX5_deliver_286 rfl (lv_at hl 5 rfl) ?_
                  refine x_get (C := RX5) (T := TX5) (N := 25) (ci := 5) (a := 20) (k := 0) (v := .ref (ad (23, 0))) hx hb hts iw_X5_deliver_X5 hown hK hP (in1m hC (a := 20) (by decide) (by decide)) rfl rfl 3 (by decide) (hts (.fieldLink RX5 17 "PageOwnersModel" "guess" "[I") (by decide +kernel)) (fun _ h9 => h9) rfl dX5_deliver_287 ?_
                  refine lv_iload hx hb dX5_deliver_290 (lv_at hl 0 rfl) ?_
                  refine lv_iload_n hx hb dX5_deliver_292 rfl (lv_at hl 3 rfl) ?_
                  have hin66 := h.1
                  have h := h.2
                  refine x_iast (a := 23) (k := 0) (n := 48) hx hb hK hP hAd hS (in1m hC (a := 23) (by decide) (by decide)) (fun _ => rfl) hin66 dX5_deliver_293 (fun H locs hP hS => ?_)
                  obtain ⟨σ64, e65⟩ : ∃ z, z = sI σ61 23 0 (ix r9) (σ5.1 42 0 (ix 1)) := ⟨_, rfl⟩
                  rw [← e65] at hP
                  have h := h σ64 e65
                  refine lv_aload_n hx hb dX5_deliver_294 rfl (lv_at hl 5 rfl) ?_
                  refine x_get (C := RX5) (T := TX5) (N := 25) (ci := 5) (a := 20) (k := 0) (v := .ref (ad (34, 0))) hx hb hts iw_X5_deliver_X5 hown hK hP (in1m hC (a := 20) (by decide) (by decide)) rfl rfl 14 (by decide) (hts (.fieldLink RX5 51 "PageOwnersModel" "wasCalled" "[Z") (by decide +kernel)) (fun _ h9 => h9) rfl dX5_deliver_295 ?_
                  refine lv_iload hx hb dX5_deliver_298 (lv_at hl 2 rfl) ?_
                  refine lv_dup2_11 hx hb dX5_deliver_300 rfl rfl ?_
                  have hin67 := h.1
                  have h := h.2
                  refine x_zald (a := 34) (k := 0) (n := 6) hx hb hK hP (in1m hC (a := 34) (by decide) (by decide)) (fun _ => rfl) hin67 dX5_deliver_301 ?_
                  refine lv_aload_n hx hb dX5_deliver_302 rfl (lv_at hl 5 rfl) ?_
                  refine x_get (C := RX5) (T := TX5) (N := 25) (ci := 5) (a := 20) (k := 0) (v := .ref (ad (28, 0))) hx hb hts iw_X5_deliver_X5 hown hK hP (in1m hC (a := 20) (by decide) (by decide)) rfl rfl 8 (by decide) (hts (.fieldLink RX5 33 "PageOwnersModel" "waits" "[I") (by decide +kernel)) (fun _ h9 => h9) rfl dX5_deliver_303 ?_
                  refine lv_iload hx hb dX5_deliver_306 (lv_at hl 2 rfl) ?_
                  have hin68 := h.1
                  have h := h.2
                  refine x_iald (a := 28) (k := 0) (n := 6) hx hb hK hP (in1m hC (a := 28) (by decide) (by decide)) (fun _ => rfl) hin68 dX5_deliver_308 ?_
                  refine lv_iconst (v := 1) hx hb dX5_deliver_309 (by decide) ?_
                  refine lv_icmp_ne (tgt := 329) hx hb dX5_deliver_310 (by decide) (fun c69 => ?_) (fun c69 => ?_)
                  · have h := h.2 c69
                    refine lv_iconst (v := 0) hx hb dX5_deliver_329 (by decide) ?_
                    refine lv_ior hx hb dX5_deliver_330 ?_
                    have hin88 := h.1
                    have h := h.2
                    have z89 := h.1
                    have h := h.2
                    refine x_zast (a := 34) (k := 0) (n := 6) hx hb hK hP hAd hS (in1m hC (a := 34) (by decide) (by decide)) (fun _ => rfl) hin88 z89 dX5_deliver_331 (fun H locs hP hS => ?_)
                    obtain ⟨σ86, e87⟩ : ∃ z, z = sI σ64 34 0 (ix (σ5.1 42 0 (ix 2))) ((σ64.1 34 0 (ix (σ5.1 42 0 (ix 2)))) ||| 0) := ⟨_, rfl⟩
                    rw [← e87] at hP
                    have h := h σ86 e87
                    refine lv_aload_n hx hb dX5_deliver_332 rfl (lv_at hl 5 rfl) ?_
                    refine lv_bipush (v := 6) hx hb dX5_deliver_333 (by decide) ?_
                    refine lv_iload hx hb dX5_deliver_335 (lv_at hl 2 rfl) ?_
                    refine lv_iload_n hx hb dX5_deliver_337 rfl (lv_at hl 3 rfl) ?_
                    refine lv_iload hx hb dX5_deliver_338 (lv_at hl 1 rfl) ?_
                    refine lv_iconst (v := (-1)) hx hb dX5_deliver_340 (by decide) ?_
                    refine lv_iconst (v := 0) hx hb dX5_deliver_341 (by decide) ?_
                    refine x_cVv (C := RX5) (As := [.int 6, .int (σ5.1 42 0 (ix 2)), .int (σ5.1 42 0 (ix 1)), .int (σ5.1 42 0 (ix 3)), .int (-1), .int 0]) (rest := []) ⟨hx, hb, hml, hown, hts⟩ hK hP hS (c_X5_send l hAd hC σ86 6 (σ5.1 42 0 (ix 2)) (σ5.1 42 0 (ix 1)) (σ5.1 42 0 (ix 3)) (-1) 0 _ h) (cwV 6 hts gX5_deliver_X5_send rfl rfl rfl (by decide +kernel) ⟨Nat.le_of_ble_eq_true rfl, Nat.le_of_ble_eq_true rfl⟩) (x_recv hK hP (in1m hC (a := 20) (by decide) (by decide)) rfl rfl) rfl hl.1 rfl (Nat.le_of_ble_eq_true rfl) dX5_deliver_342 ⟨Nat.zero_le _, Nat.zero_le _⟩ (fun σ90 H locs h hP hS => ?_)
                    refine lv_goto (tgt := 391) hx hb dX5_deliver_345 (by decide) ?_
                    refine lv_iload_n hx hb dX5_deliver_391 rfl (lv_at hl 4 rfl) ?_
                    exact W.iret (v := (σ5.1 42 0 (ix 0))) hx hb hr (fun t ht hW => ⟨⟨(σ5.1 42 0 (ix 0)), σ90, rfl, h, by rw [ht]; exact hP, va_K.moved hW.alike hK⟩, hS.F ht⟩) hS.2.2 dX5_deliver_392
                  · have h := h.1 c69
                    refine lv_aload_n hx hb dX5_deliver_313 rfl (lv_at hl 5 rfl) ?_
                    refine x_get (C := RX5) (T := TX5) (N := 25) (ci := 5) (a := 20) (k := 0) (v := .ref (ad (29, 0))) hx hb hts iw_X5_deliver_X5 hown hK hP (in1m hC (a := 20) (by decide) (by decide)) rfl rfl 9 (by decide) (hts (.fieldLink RX5 36 "PageOwnersModel" "page" "[I") (by decide +kernel)) (fun _ h9 => h9) rfl dX5_deliver_314 ?_
                    refine lv_iload hx hb dX5_deliver_317 (lv_at hl 2 rfl) ?_
                    have hin70 := h.1
                    have h := h.2
                    refine x_iald (a := 29) (k := 0) (n := 6) hx hb hK hP (in1m hC (a := 29) (by decide) (by decide)) (fun _ => rfl) hin70 dX5_deliver_319 ?_
                    refine lv_iload hx hb dX5_deliver_320 (lv_at hl 1 rfl) ?_
                    refine lv_icmp_ne (tgt := 329) hx hb dX5_deliver_322 (by decide) (fun c71 => ?_) (fun c71 => ?_)
                    · have h := h.2 c71
                      refine lv_iconst (v := 0) hx hb dX5_deliver_329 (by decide) ?_
                      refine lv_ior hx hb dX5_deliver_330 ?_
                      have hin81 := h.1
                      have h := h.2
                      have z82 := h.1
                      have h := h.2
                      refine x_zast (a := 34) (k := 0) (n := 6) hx hb hK hP hAd hS (in1m hC (a := 34) (by decide) (by decide)) (fun _ => rfl) hin81 z82 dX5_deliver_331 (fun H locs hP hS => ?_)
                      obtain ⟨σ79, e80⟩ : ∃ z, z = sI σ64 34 0 (ix (σ5.1 42 0 (ix 2))) ((σ64.1 34 0 (ix (σ5.1 42 0 (ix 2)))) ||| 0) := ⟨_, rfl⟩
                      rw [← e80] at hP
                      have h := h σ79 e80
                      refine lv_aload_n hx hb dX5_deliver_332 rfl (lv_at hl 5 rfl) ?_
                      refine lv_bipush (v := 6) hx hb dX5_deliver_333 (by decide) ?_
                      refine lv_iload hx hb dX5_deliver_335 (lv_at hl 2 rfl) ?_
                      refine lv_iload_n hx hb dX5_deliver_337 rfl (lv_at hl 3 rfl) ?_
                      refine lv_iload hx hb dX5_deliver_338 (lv_at hl 1 rfl) ?_
                      refine lv_iconst (v := (-1)) hx hb dX5_deliver_340 (by decide) ?_
                      refine lv_iconst (v := 0) hx hb dX5_deliver_341 (by decide) ?_
                      refine x_cVv (C := RX5) (As := [.int 6, .int (σ5.1 42 0 (ix 2)), .int (σ5.1 42 0 (ix 1)), .int (σ5.1 42 0 (ix 3)), .int (-1), .int 0]) (rest := []) ⟨hx, hb, hml, hown, hts⟩ hK hP hS (c_X5_send l hAd hC σ79 6 (σ5.1 42 0 (ix 2)) (σ5.1 42 0 (ix 1)) (σ5.1 42 0 (ix 3)) (-1) 0 _ h) (cwV 6 hts gX5_deliver_X5_send rfl rfl rfl (by decide +kernel) ⟨Nat.le_of_ble_eq_true rfl, Nat.le_of_ble_eq_true rfl⟩) (x_recv hK hP (in1m hC (a := 20) (by decide) (by decide)) rfl rfl) rfl hl.1 rfl (Nat.le_of_ble_eq_true rfl) dX5_deliver_342 ⟨Nat.zero_le _, Nat.zero_le _⟩ (fun σ83 H locs h hP hS => ?_)
                      refine lv_goto (tgt := 391) hx hb dX5_deliver_345 (by decide) ?_
                      refine lv_iload_n hx hb dX5_deliver_391 rfl (lv_at hl 4 rfl) ?_
                      exact W.iret (v := (σ5.1 42 0 (ix 0))) hx hb hr (fun t ht hW => ⟨⟨(σ5.1 42 0 (ix 0)), σ83, rfl, h, by rw [ht]; exact hP, va_K.moved hW.alike hK⟩, hS.F ht⟩) hS.2.2 dX5_deliver_392
                    · have h := h.1 c71
                      refine lv_iconst (v := 1) hx hb dX5_deliver_325 (by decide) ?_
                      refine lv_goto (tgt := 330) hx hb dX5_deliver_326 (by decide) ?_
                      refine lv_ior hx hb dX5_deliver_330 ?_
                      have hin74 := h.1
                      have h := h.2
                      have z75 := h.1
                      have h := h.2
                      refine x_zast (a := 34) (k := 0) (n := 6) hx hb hK hP hAd hS (in1m hC (a := 34) (by decide) (by decide)) (fun _ => rfl) hin74 z75 dX5_deliver_331 (fun H locs hP hS => ?_)
                      obtain ⟨σ72, e73⟩ : ∃ z, z = sI σ64 34 0 (ix (σ5.1 42 0 (ix 2))) ((σ64.1 34 0 (ix (σ5.1 42 0 (ix 2)))) ||| 1) := ⟨_, rfl⟩
                      rw [← e73] at hP
                      have h := h σ72 e73
                      refine lv_aload_n hx hb dX5_deliver_332 rfl (lv_at hl 5 rfl) ?_
                      refine lv_bipush (v := 6) hx hb dX5_deliver_333 (by decide) ?_
                      refine lv_iload hx hb dX5_deliver_335 (lv_at hl 2 rfl) ?_
                      refine lv_iload_n hx hb dX5_deliver_337 rfl (lv_at hl 3 rfl) ?_
                      refine lv_iload hx hb dX5_deliver_338 (lv_at hl 1 rfl) ?_
                      refine lv_iconst (v := (-1)) hx hb dX5_deliver_340 (by decide) ?_
                      refine lv_iconst (v := 0) hx hb dX5_deliver_341 (by decide) ?_
                      refine x_cVv (C := RX5) (As := [.int 6, .int (σ5.1 42 0 (ix 2)), .int (σ5.1 42 0 (ix 1)), .int (σ5.1 42 0 (ix 3)), .int (-1), .int 0]) (rest := []) ⟨hx, hb, hml, hown, hts⟩ hK hP hS (c_X5_send l hAd hC σ72 6 (σ5.1 42 0 (ix 2)) (σ5.1 42 0 (ix 1)) (σ5.1 42 0 (ix 3)) (-1) 0 _ h) (cwV 6 hts gX5_deliver_X5_send rfl rfl rfl (by decide +kernel) ⟨Nat.le_of_ble_eq_true rfl, Nat.le_of_ble_eq_true rfl⟩) (x_recv hK hP (in1m hC (a := 20) (by decide) (by decide)) rfl rfl) rfl hl.1 rfl (Nat.le_of_ble_eq_true rfl) dX5_deliver_342 ⟨Nat.zero_le _, Nat.zero_le _⟩ (fun σ76 H locs h hP hS => ?_)
                      refine lv_goto (tgt := 391) hx hb dX5_deliver_345 (by decide) ?_
                      refine lv_iload_n hx hb dX5_deliver_391 rfl (lv_at hl 4 rfl) ?_
                      exact W.iret (v := (σ5.1 42 0 (ix 0))) hx hb hr (fun t ht hW => ⟨⟨(σ5.1 42 0 (ix 0)), σ76, rfl, h, by rw [ht]; exact hP, va_K.moved hW.alike hK⟩, hS.F ht⟩) hS.2.2 dX5_deliver_392
                · have h := h.2 c60
                  have n108 : (σ5.1 42 0 (ix 0)).toInt < 1 ∨ 5 < (σ5.1 42 0 (ix 0)).toInt := by
                    have := lv_neT (k := 1) (a := 1) c11 rfl
                    have := lv_neT (k := 2) (a := 2) c15 rfl
                    have := lv_neT (k := 3) (a := 3) c19 rfl
                    have := lv_neT (k := 4) (a := 4) c40 rfl
                    have := lv_neT (k := 5) (a := 5) c60 rfl
                    omega
                  refine lv_tableOut (tgt := 348) hx hb dX5_deliver_119 n108 (by decide) ?_
                  refine lv_aload_n hx hb dX5_deliver_348 rfl (lv_at hl 5 rfl) ?_
                  refine x_get (C := RX5) (T := TX5) (N := 25) (ci := 5) (a := 20) (k := 0) (v := .ref (ad (33, 0))) hx hb hts iw_X5_deliver_X5 hown hK hP (in1m hC (a := 20) (by decide) (by decide)) rfl rfl 13 (by decide) (hts (.fieldLink RX5 48 "PageOwnersModel" "answers" "[I") (by decide +kernel)) (fun _ h9 => h9) rfl dX5_deliver_349 ?_
                  refine lv_iload hx hb dX5_deliver_352 (lv_at hl 2 rfl) ?_
                  refine lv_dup2_11 hx hb dX5_deliver_354 rfl rfl ?_
                  have hin93 := h.1
                  have h := h.2
                  refine x_iald (a := 33) (k := 0) (n := 6) hx hb hK hP (in1m hC (a := 33) (by decide) (by decide)) (fun _ => rfl) hin93 dX5_deliver_355 ?_
                  refine lv_iconst (v := 1) hx hb dX5_deliver_356 (by decide) ?_
                  refine lv_isub hx hb dX5_deliver_357 ?_
                  have hin96 := h.1
                  have h := h.2
                  refine x_iast (a := 33) (k := 0) (n := 6) hx hb hK hP hAd hS (in1m hC (a := 33) (by decide) (by decide)) (fun _ => rfl) hin96 dX5_deliver_358 (fun H locs hP hS => ?_)
                  obtain ⟨σ94, e95⟩ : ∃ z, z = sI σ8 33 0 (ix (σ5.1 42 0 (ix 2))) ((σ8.1 33 0 (ix (σ5.1 42 0 (ix 2)))) - 1) := ⟨_, rfl⟩
                  rw [← e95] at hP
                  have h := h σ94 e95
                  refine lv_aload_n hx hb dX5_deliver_359 rfl (lv_at hl 5 rfl) ?_
                  refine x_get (C := RX5) (T := TX5) (N := 25) (ci := 5) (a := 20) (k := 0) (v := .ref (ad (33, 0))) hx hb hts iw_X5_deliver_X5 hown hK hP (in1m hC (a := 20) (by decide) (by decide)) rfl rfl 13 (by decide) (hts (.fieldLink RX5 48 "PageOwnersModel" "answers" "[I") (by decide +kernel)) (fun _ h9 => h9) rfl dX5_deliver_360 ?_
                  refine lv_iload hx hb dX5_deliver_363 (lv_at hl 2 rfl) ?_
                  have hin97 := h.1
                  have h := h.2
                  refine x_iald (a := 33) (k := 0) (n := 6) hx hb hK hP (in1m hC (a := 33) (by decide) (by decide)) (fun _ => rfl) hin97 dX5_deliver_365 ?_
                  refine lv_if_ne (tgt := 391) hx hb dX5_deliver_366 (by decide) (fun c98 => ?_) (fun c98 => ?_)
                  · have h := h.2 c98
                    refine lv_iload_n hx hb dX5_deliver_391 rfl (lv_at hl 4 rfl) ?_
                    exact W.iret (v := (σ5.1 42 0 (ix 0))) hx hb hr (fun t ht hW => ⟨⟨(σ5.1 42 0 (ix 0)), σ94, rfl, h, by rw [ht]; exact hP, va_K.moved hW.alike hK⟩, hS.F ht⟩) hS.2.2 dX5_deliver_392
                  · have h := h.1 c98
                    refine lv_aload_n hx hb dX5_deliver_369 rfl (lv_at hl 5 rfl) ?_
                    refine x_get (C := RX5) (T := TX5) (N := 25) (ci := 5) (a := 20) (k := 0) (v := .ref (ad (21, 0))) hx hb hts iw_X5_deliver_X5 hown hK hP (in1m hC (a := 20) (by decide) (by decide)) rfl rfl 1 (by decide) (hts (.fieldLink RX5 7 "PageOwnersModel" "access" "[I") (by decide +kernel)) (fun _ h9 => h9) rfl dX5_deliver_370 ?_
                    refine lv_iload hx hb dX5_deliver_373 (lv_at hl 0 rfl) ?_
                    refine lv_iconst (v := 2) hx hb dX5_deliver_375 (by decide) ?_
                    have hin101 := h.1
                    have h := h.2
                    refine x_iast (a := 21) (k := 0) (n := 48) hx hb hK hP hAd hS (in1m hC (a := 21) (by decide) (by decide)) (fun _ => rfl) hin101 dX5_deliver_376 (fun H locs hP hS => ?_)
                    obtain ⟨σ99, e100⟩ : ∃ z, z = sI σ94 21 0 (ix r9) 2 := ⟨_, rfl⟩
                    rw [← e100] at hP
                    have h := h σ99 e100
                    refine lv_aload_n hx hb dX5_deliver_377 rfl (lv_at hl 5 rfl) ?_
                    refine lv_iload hx hb dX5_deliver_378 (lv_at hl 2 rfl) ?_
                    refine x_cVv (C := RX5) (As := [.int (σ5.1 42 0 (ix 2))]) (rest := []) ⟨hx, hb, hml, hown, hts⟩ hK hP hS (c_X5_finish l hAd hC σ99 (σ5.1 42 0 (ix 2)) _ h) (cwV 1 hts gX5_deliver_X5_finish rfl rfl rfl (by decide +kernel) ⟨Nat.le_of_ble_eq_true rfl, Nat.le_of_ble_eq_true rfl⟩) (x_recv hK hP (in1m hC (a := 20) (by decide) (by decide)) rfl rfl) rfl hl.1 rfl (Nat.le_of_ble_eq_true rfl) dX5_deliver_380 ⟨Nat.zero_le _, Nat.zero_le _⟩ (fun σ102 H locs h hP hS => ?_)
                    refine lv_aload_n hx hb dX5_deliver_383 rfl (lv_at hl 5 rfl) ?_
                    refine lv_iload hx hb dX5_deliver_384 (lv_at hl 2 rfl) ?_
                    refine lv_iload hx hb dX5_deliver_386 (lv_at hl 1 rfl) ?_
                    refine x_cVv (C := RX5) (As := [.int (σ5.1 42 0 (ix 2)), .int (σ5.1 42 0 (ix 3))]) (rest := []) ⟨hx, hb, hml, hown, hts⟩ hK hP hS (c_X5_goOver l hAd hC σ102 (σ5.1 42 0 (ix 2)) (σ5.1 42 0 (ix 3)) _ h) (cwV 2 hts gX5_deliver_X5_goOver rfl rfl rfl (by decide +kernel) ⟨Nat.le_of_ble_eq_true rfl, Nat.le_of_ble_eq_true rfl⟩) (x_recv hK hP (in1m hC (a := 20) (by decide) (by decide)) rfl rfl) rfl hl.1 rfl (Nat.le_of_ble_eq_true rfl) dX5_deliver_388 ⟨Nat.zero_le _, Nat.zero_le _⟩ (fun σ105 H locs h hP hS => ?_)
                    refine lv_iload_n hx hb dX5_deliver_391 rfl (lv_at hl 4 rfl) ?_
                    exact W.iret (v := (σ5.1 42 0 (ix 0))) hx hb hr (fun t ht hW => ⟨⟨(σ5.1 42 0 (ix 0)), σ105, rfl, h, by rw [ht]; exact hP, va_K.moved hW.alike hK⟩, hS.F ht⟩) hS.2.2 dX5_deliver_392
      · have h := h.2 c4
        refine lv_aload_n hx hb dX5_deliver_52 rfl (lv_at hl 0 rfl) ?_
        refine x_get (C := RX5) (T := TX5) (N := 25) (ci := 5) (a := 20) (k := 0) (v := .ref (ad (43, 0))) hx hb hts iw_X5_deliver_X5 hown hK hP (in1m hC (a := 20) (by decide) (by decide)) rfl rfl 23 (by decide) (hts (.fieldLink RX5 75 "PageOwnersModel" "ownWords" "[J") (by decide +kernel)) (fun _ h9 => h9) rfl dX5_deliver_53 ?_
        refine lv_iload_n hx hb dX5_deliver_56 rfl (lv_at hl 2 rfl) ?_
        refine lv_aload_n hx hb dX5_deliver_57 rfl (lv_at hl 0 rfl) ?_
        refine x_get (C := RX5) (T := TX5) (N := 25) (ci := 5) (a := 20) (k := 0) (v := .ref (ad (39, 0))) hx hb hts iw_X5_deliver_X5 hown hK hP (in1m hC (a := 20) (by decide) (by decide)) rfl rfl 19 (by decide) (hts (.fieldLink RX5 66 "PageOwnersModel" "letterWords" "[J") (by decide +kernel)) (fun _ h9 => h9) rfl dX5_deliver_58 ?_
        refine lv_iconst (v := 4) hx hb dX5_deliver_61 (by decide) ?_
        refine lv_iload_n hx hb dX5_deliver_62 rfl (lv_at hl 1 rfl) ?_
        refine lv_imul hx hb dX5_deliver_63 ?_
        refine lv_iload_n hx hb dX5_deliver_64 rfl (lv_at hl 2 rfl) ?_
        refine lv_iadd hx hb dX5_deliver_65 ?_
        have hin109 := h.1
        have h := h.2
        refine x_lald (a := 39) (k := 0) (n := 800) hx hb hK hP (in1m hC (a := 39) (by decide) (by decide)) (fun _ => rfl) hin109 dX5_deliver_66 ?_
        have hin112 := h.1
        have h := h.2
        refine x_last (a := 43) (k := 0) (n := 4) hx hb hK hP hAd hS (in1m hC (a := 43) (by decide) (by decide)) (fun _ => rfl) hin112 dX5_deliver_67 (fun H locs hP hS => ?_)
        obtain ⟨σ110, e111⟩ : ∃ z, z = sL σ 43 0 (ix y2) (σ.2.1 39 0 (ix ((4 * x1) + y2))) := ⟨_, rfl⟩
        rw [← e111] at hP
        have h := h σ110 e111
        refine lv_iinc (v := (y2 + 1)) (lv' := [(2, .int (y2 + 1)), (0, .ref (ad (20, 0))), (1, .int x1)]) hx hb dX5_deliver_68 hl (k := 2) rfl rfl (by decide) rfl (fun ls hl => ?_)
        refine lv_goto (tgt := 47) hx hb dX5_deliver_71 (by decide) ?_
        exact ih σ110 (y2 + 1) _ _ _ h hP hS (lv_sub hl [1, 2, 0] rfl)
  have L16 : ∀ (n : Nat) (σ : Sg) (y2 : Int32) (H : Heap) (locs : List Loc) (ls : Array Slot), lp_X5_deliver_16 x1 Q n σ y2 → Wo D P ad cy σ H → va_S (Aof P ad) s.heap H locs → lv_has ls 7 [(0, .ref (ad (20, 0))), (1, .int x1), (2, .int y2)] → W p l e (headSpec wsX5_deliver rm_X5_deliver).room s m ([.ref (ad (20, 0)), .int x1] : List Value).toArray below meth c H locs 0 0 (MQ below (va_Qi (fun r σ' => Q σ' r) (xB D P ad cy) (Aof P ad)) ([.ref (ad (20, 0)), .int x1] : List Value).toArray s 0 0 (Aof P ad)) (F0 m 16 ls []) := by
    intro n
    induction n with
    | zero =>
      intro σ y2 H locs ls h
      exact h.elim
    | succ n ih =>
      intro σ y2 H locs ls h hP hS hl
      rw [lp_X5_deliver_16] at h
      refine lv_iload_n hx hb dX5_deliver_16 rfl (lv_at hl 2 rfl) ?_
      refine lv_bipush (v := 7) hx hb dX5_deliver_17 (by decide) ?_
      refine lv_icmp_ge (tgt := 45) hx hb dX5_deliver_19 (by decide) (fun c3 => ?_) (fun c3 => ?_)
      · have h := h.1 c3
        refine lv_iconst (v := 0) hx hb dX5_deliver_45 (by decide) ?_
        refine lv_istore_n (lv' := [(2, .int 0), (0, .ref (ad (20, 0))), (1, .int x1)]) hx hb dX5_deliver_46 rfl hl (by decide) rfl (fun ls hl => ?_)
        obtain ⟨n113, h⟩ := h
        exact L47 n113 σ 0 _ _ _ h hP hS (lv_sub hl [1, 2, 0] rfl)
      · have h := h.2 c3
        refine lv_aload_n hx hb dX5_deliver_22 rfl (lv_at hl 0 rfl) ?_
        refine x_get (C := RX5) (T := TX5) (N := 25) (ci := 5) (a := 20) (k := 0) (v := .ref (ad (42, 0))) hx hb hts iw_X5_deliver_X5 hown hK hP (in1m hC (a := 20) (by decide) (by decide)) rfl rfl 22 (by decide) (hts (.fieldLink RX5 72 "PageOwnersModel" "own" "[I") (by decide +kernel)) (fun _ h9 => h9) rfl dX5_deliver_23 ?_
        refine lv_iload_n hx hb dX5_deliver_26 rfl (lv_at hl 2 rfl) ?_
        refine lv_aload_n hx hb dX5_deliver_27 rfl (lv_at hl 0 rfl) ?_
        refine x_get (C := RX5) (T := TX5) (N := 25) (ci := 5) (a := 20) (k := 0) (v := .ref (ad (38, 0))) hx hb hts iw_X5_deliver_X5 hown hK hP (in1m hC (a := 20) (by decide) (by decide)) rfl rfl 18 (by decide) (hts (.fieldLink RX5 63 "PageOwnersModel" "letters" "[I") (by decide +kernel)) (fun _ h9 => h9) rfl dX5_deliver_28 ?_
        refine lv_bipush (v := 7) hx hb dX5_deliver_31 (by decide) ?_
        refine lv_iload_n hx hb dX5_deliver_33 rfl (lv_at hl 1 rfl) ?_
        refine lv_imul hx hb dX5_deliver_34 ?_
        refine lv_iload_n hx hb dX5_deliver_35 rfl (lv_at hl 2 rfl) ?_
        refine lv_iadd hx hb dX5_deliver_36 ?_
        have hin114 := h.1
        have h := h.2
        refine x_iald (a := 38) (k := 0) (n := 1400) hx hb hK hP (in1m hC (a := 38) (by decide) (by decide)) (fun _ => rfl) hin114 dX5_deliver_37 ?_
        have hin117 := h.1
        have h := h.2
        refine x_iast (a := 42) (k := 0) (n := 7) hx hb hK hP hAd hS (in1m hC (a := 42) (by decide) (by decide)) (fun _ => rfl) hin117 dX5_deliver_38 (fun H locs hP hS => ?_)
        obtain ⟨σ115, e116⟩ : ∃ z, z = sI σ 42 0 (ix y2) (σ.1 38 0 (ix ((7 * x1) + y2))) := ⟨_, rfl⟩
        rw [← e116] at hP
        have h := h σ115 e116
        refine lv_iinc (v := (y2 + 1)) (lv' := [(2, .int (y2 + 1)), (0, .ref (ad (20, 0))), (1, .int x1)]) hx hb dX5_deliver_39 hl (k := 2) rfl rfl (by decide) rfl (fun ls hl => ?_)
        refine lv_goto (tgt := 16) hx hb dX5_deliver_42 (by decide) ?_
        exact ih σ115 (y2 + 1) _ _ _ h hP hS (lv_sub hl [1, 2, 0] rfl)
  unfold wp_X5_deliver at h
  refine lv_iload_n hx hb dX5_deliver_0 rfl (lv_at hl 1 rfl) ?_
  refine lv_if_lt (tgt := 12) hx hb dX5_deliver_1 (by decide) (fun c1 => ?_) (fun c1 => ?_)
  · have h := h.1 c1
    refine lv_iconst (v := (-1)) hx hb dX5_deliver_12 (by decide) ?_
    exact W.iret (v := (-1)) hx hb hr (fun t ht hW => ⟨⟨(-1), σ, rfl, h, by rw [ht]; exact hP, va_K.moved hW.alike hK⟩, hS.F ht⟩) hS.2.2 dX5_deliver_13
  · have h := h.2 c1
    refine lv_iload_n hx hb dX5_deliver_4 rfl (lv_at hl 1 rfl) ?_
    refine lv_aload_n hx hb dX5_deliver_5 rfl (lv_at hl 0 rfl) ?_
    refine x_get (C := RX5) (T := TX5) (N := 25) (ci := 5) (a := 20) (k := 0) (v := .int (σ.1 20 0 20)) hx hb hts iw_X5_deliver_X5 hown hK hP (in1m hC (a := 20) (by decide) (by decide)) rfl rfl 20 (by decide) (hts (.fieldLink RX5 89 "PageOwnersModel" "flying" "I") (by decide +kernel)) (fun _ h9 => h9) rfl dX5_deliver_6 ?_
    refine lv_icmp_lt (tgt := 14) hx hb dX5_deliver_9 (by decide) (fun c2 => ?_) (fun c2 => ?_)
    · have h := h.1 c2
      refine lv_iconst (v := 0) hx hb dX5_deliver_14 (by decide) ?_
      refine lv_istore_n (lv' := [(2, .int 0), (0, .ref (ad (20, 0))), (1, .int x1)]) hx hb dX5_deliver_15 rfl hl (by decide) rfl (fun ls hl => ?_)
      obtain ⟨n118, h⟩ := h
      exact L16 n118 σ 0 _ _ _ h hP hS (lv_sub hl [1, 2, 0] rfl)
    · have h := h.2 c2
      refine lv_iconst (v := (-1)) hx hb dX5_deliver_12 (by decide) ?_
      exact W.iret (v := (-1)) hx hb hr (fun t ht hW => ⟨⟨(-1), σ, rfl, h, by rw [ht]; exact hP, va_K.moved hW.alike hK⟩, hS.F ht⟩) hS.2.2 dX5_deliver_13
