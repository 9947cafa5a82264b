/-- what must hold at the head of the law's loop -/
def lpL (xs : Nat → Int32) (L : Nat) : Nat → Sg → Int32 → Prop
  | 0, _, _ => False
  | n + 1, σ, y3 => ((((Int32.ofNat L) - 6) < y3 → True) ∧ (¬ (((Int32.ofNat L) - 6) < y3) → (vp_in y3 L ∧ ((((xs (ix y3)) &&& 31) = 0 → (vp_in (y3 + 1) L ∧ (wp_X4_begin σ (xs (ix (y3 + 1))) (fun σ5 r6 => (vp_in (y3 + 1) L ∧ (wp_X5_begin σ5 (xs (ix (y3 + 1))) (fun σ9 r10 => ((r6 = r10 → lpL xs L n σ9 (y3 + 6)) ∧ (¬ (r6 = r10) → False))))))))) ∧ (¬ (((xs (ix y3)) &&& 31) = 0) → ((((xs (ix y3)) &&& 31) = 1 → (vp_in (y3 + 1) L ∧ (vp_in (y3 + 2) L ∧ (vp_in (y3 + 3) L ∧ (wp_X4_read σ (xs (ix (y3 + 1))) (xs (ix (y3 + 2))) (xs (ix (y3 + 3))) (fun σ17 r18 => (vp_in (y3 + 1) L ∧ (vp_in (y3 + 2) L ∧ (vp_in (y3 + 3) L ∧ (wp_X5_read σ17 (xs (ix (y3 + 1))) (xs (ix (y3 + 2))) (xs (ix (y3 + 3))) (fun σ23 r24 => ((r18 = r24 → lpL xs L n σ23 (y3 + 6)) ∧ (¬ (r18 = r24) → False))))))))))))) ∧ (¬ (((xs (ix y3)) &&& 31) = 1) → ((((xs (ix y3)) &&& 31) = 2 → (vp_in (y3 + 1) L ∧ (vp_in (y3 + 2) L ∧ (vp_in (y3 + 3) L ∧ (vp_in (y3 + 4) L ∧ (vp_in (y3 + 5) L ∧ (wp_X4_write σ (xs (ix (y3 + 1))) (xs (ix (y3 + 2))) (xs (ix (y3 + 3))) (((((xs (ix (y3 + 4))) : Int32).toInt64) <<< ((32 : Int32).toInt64 &&& 63)) ||| ((((xs (ix (y3 + 5))) : Int32).toInt64) &&& 4294967295)) (fun σ33 r34 => (vp_in (y3 + 1) L ∧ (vp_in (y3 + 2) L ∧ (vp_in (y3 + 3) L ∧ (vp_in (y3 + 4) L ∧ (vp_in (y3 + 5) L ∧ (wp_X5_write σ33 (xs (ix (y3 + 1))) (xs (ix (y3 + 2))) (xs (ix (y3 + 3))) (((((xs (ix (y3 + 4))) : Int32).toInt64) <<< ((32 : Int32).toInt64 &&& 63)) ||| ((((xs (ix (y3 + 5))) : Int32).toInt64) &&& 4294967295)) (fun σ41 r42 => ((r34 = r42 → lpL xs L n σ41 (y3 + 6)) ∧ (¬ (r34 = r42) → False))))))))))))))))) ∧ (¬ (((xs (ix y3)) &&& 31) = 2) → ((((xs (ix y3)) &&& 31) = 3 → (vp_in (y3 + 1) L ∧ (wp_X4_deliver σ (xs (ix (y3 + 1))) (fun σ47 r48 => (vp_in (y3 + 1) L ∧ (wp_X5_deliver σ47 (xs (ix (y3 + 1))) (fun σ51 r52 => ((r48 = r52 → lpL xs L n σ51 (y3 + 6)) ∧ (¬ (r48 = r52) → False))))))))) ∧ (¬ (((xs (ix y3)) &&& 31) = 3) → ((((xs (ix y3)) &&& 31) = 4 → (vp_in (y3 + 1) L ∧ (wp_X4_waits σ (xs (ix (y3 + 1))) (fun σ57 r58 => (vp_in (y3 + 1) L ∧ (wp_X5_waits σ57 (xs (ix (y3 + 1))) (fun σ61 r62 => ((r58 = r62 → lpL xs L n σ61 (y3 + 6)) ∧ (¬ (r58 = r62) → False))))))))) ∧ (¬ (((xs (ix y3)) &&& 31) = 4) → ((((xs (ix y3)) &&& 31) = 5 → (vp_in (y3 + 1) L ∧ (vp_in (y3 + 2) L ∧ (wp_X4_at σ (xs (ix (y3 + 1))) (xs (ix (y3 + 2))) (fun σ68 r69 => (vp_in (y3 + 1) L ∧ (vp_in (y3 + 2) L ∧ (wp_X5_at σ68 (xs (ix (y3 + 1))) (xs (ix (y3 + 2))) (fun σ73 r74 => ((r69 = r74 → lpL xs L n σ73 (y3 + 6)) ∧ (¬ (r69 = r74) → False))))))))))) ∧ (¬ (((xs (ix y3)) &&& 31) = 5) → ((((xs (ix y3)) &&& 31) = 6 → (vp_in (y3 + 1) L ∧ (wp_X4_result σ (xs (ix (y3 + 1))) (fun σ79 r80 => (vp_in (y3 + 1) L ∧ (wp_X5_result σ79 (xs (ix (y3 + 1))) (fun σ83 r84 => (((lg_cmp r80 r84) = 0 → lpL xs L n σ83 (y3 + 6)) ∧ (¬ ((lg_cmp r80 r84) = 0) → False))))))))) ∧ (¬ (((xs (ix y3)) &&& 31) = 6) → ((((xs (ix y3)) &&& 31) = 7 → (vp_in (y3 + 1) L ∧ (vp_in (y3 + 2) L ∧ (wp_X4_access σ (xs (ix (y3 + 1))) (xs (ix (y3 + 2))) (fun σ90 r91 => (vp_in (y3 + 1) L ∧ (vp_in (y3 + 2) L ∧ (wp_X5_access σ90 (xs (ix (y3 + 1))) (xs (ix (y3 + 2))) (fun σ95 r96 => ((r91 = r96 → lpL xs L n σ95 (y3 + 6)) ∧ (¬ (r91 = r96) → False))))))))))) ∧ (¬ (((xs (ix y3)) &&& 31) = 7) → ((((xs (ix y3)) &&& 31) = 8 → (vp_in (y3 + 1) L ∧ (wp_X4_owner σ (xs (ix (y3 + 1))) (fun σ101 r102 => (vp_in (y3 + 1) L ∧ (wp_X5_owner σ101 (xs (ix (y3 + 1))) (fun σ105 r106 => ((r102 = r106 → lpL xs L n σ105 (y3 + 6)) ∧ (¬ (r102 = r106) → False))))))))) ∧ (¬ (((xs (ix y3)) &&& 31) = 8) → ((((xs (ix y3)) &&& 31) = 9 → (vp_in (y3 + 1) L ∧ (vp_in (y3 + 2) L ∧ (wp_X4_guess σ (xs (ix (y3 + 1))) (xs (ix (y3 + 2))) (fun σ112 r113 => (vp_in (y3 + 1) L ∧ (vp_in (y3 + 2) L ∧ (wp_X5_guess σ112 (xs (ix (y3 + 1))) (xs (ix (y3 + 2))) (fun σ117 r118 => ((r113 = r118 → lpL xs L n σ117 (y3 + 6)) ∧ (¬ (r113 = r118) → False))))))))))) ∧ (¬ (((xs (ix y3)) &&& 31) = 9) → ((((xs (ix y3)) &&& 31) = 10 → (vp_in (y3 + 1) L ∧ (vp_in (y3 + 2) L ∧ (wp_X4_copies σ (xs (ix (y3 + 1))) (xs (ix (y3 + 2))) (fun σ124 r125 => (vp_in (y3 + 1) L ∧ (vp_in (y3 + 2) L ∧ (wp_X5_copies σ124 (xs (ix (y3 + 1))) (xs (ix (y3 + 2))) (fun σ129 r130 => ((r125 = r130 → lpL xs L n σ129 (y3 + 6)) ∧ (¬ (r125 = r130) → False))))))))))) ∧ (¬ (((xs (ix y3)) &&& 31) = 10) → ((((xs (ix y3)) &&& 31) = 11 → (vp_in (y3 + 1) L ∧ (vp_in (y3 + 2) L ∧ (vp_in (y3 + 3) L ∧ (wp_X4_word σ (xs (ix (y3 + 1))) (xs (ix (y3 + 2))) (xs (ix (y3 + 3))) (fun σ137 r138 => (vp_in (y3 + 1) L ∧ (vp_in (y3 + 2) L ∧ (vp_in (y3 + 3) L ∧ (wp_X5_word σ137 (xs (ix (y3 + 1))) (xs (ix (y3 + 2))) (xs (ix (y3 + 3))) (fun σ143 r144 => (((lg_cmp r138 r144) = 0 → lpL xs L n σ143 (y3 + 6)) ∧ (¬ ((lg_cmp r138 r144) = 0) → False))))))))))))) ∧ (¬ (((xs (ix y3)) &&& 31) = 11) → ((((xs (ix y3)) &&& 31) = 12 → (vp_in (y3 + 1) L ∧ (vp_in (y3 + 2) L ∧ (wp_X4_queue σ (xs (ix (y3 + 1))) (xs (ix (y3 + 2))) (fun σ150 r151 => (vp_in (y3 + 1) L ∧ (vp_in (y3 + 2) L ∧ (wp_X5_queue σ150 (xs (ix (y3 + 1))) (xs (ix (y3 + 2))) (fun σ155 r156 => ((r151 = r156 → lpL xs L n σ155 (y3 + 6)) ∧ (¬ (r151 = r156) → False))))))))))) ∧ (¬ (((xs (ix y3)) &&& 31) = 12) → ((((xs (ix y3)) &&& 31) = 13 → (vp_in (y3 + 1) L ∧ (vp_in (y3 + 2) L ∧ (wp_X4_chain σ (xs (ix (y3 + 1))) (xs (ix (y3 + 2))) (fun σ162 r163 => (vp_in (y3 + 1) L ∧ (vp_in (y3 + 2) L ∧ (wp_X5_chain σ162 (xs (ix (y3 + 1))) (xs (ix (y3 + 2))) (fun σ167 r168 => ((r163 = r168 → lpL xs L n σ167 (y3 + 6)) ∧ (¬ (r163 = r168) → False))))))))))) ∧ (¬ (((xs (ix y3)) &&& 31) = 13) → ((((xs (ix y3)) &&& 31) = 14 → (wp_X4_flying σ (fun σ172 r173 => (wp_X5_flying σ172 (fun σ175 r176 => ((r173 = r176 → lpL xs L n σ175 (y3 + 6)) ∧ (¬ (r173 = r176) → False))))))) ∧ (¬ (((xs (ix y3)) &&& 31) = 14) → ((((xs (ix y3)) &&& 31) = 15 → (vp_in (y3 + 1) L ∧ (vp_in (y3 + 2) L ∧ (wp_X4_letter σ (xs (ix (y3 + 1))) (xs (ix (y3 + 2))) (fun σ182 r183 => (vp_in (y3 + 1) L ∧ (vp_in (y3 + 2) L ∧ (wp_X5_letter σ182 (xs (ix (y3 + 1))) (xs (ix (y3 + 2))) (fun σ187 r188 => ((r183 = r188 → lpL xs L n σ187 (y3 + 6)) ∧ (¬ (r183 = r188) → False))))))))))) ∧ (¬ (((xs (ix y3)) &&& 31) = 15) → ((((xs (ix y3)) &&& 31) = 16 → (vp_in (y3 + 1) L ∧ (vp_in (y3 + 2) L ∧ (wp_X4_letterWord σ (xs (ix (y3 + 1))) (xs (ix (y3 + 2))) (fun σ194 r195 => (vp_in (y3 + 1) L ∧ (vp_in (y3 + 2) L ∧ (wp_X5_letterWord σ194 (xs (ix (y3 + 1))) (xs (ix (y3 + 2))) (fun σ199 r200 => (((lg_cmp r195 r200) = 0 → lpL xs L n σ199 (y3 + 6)) ∧ (¬ ((lg_cmp r195 r200) = 0) → False))))))))))) ∧ (¬ (((xs (ix y3)) &&& 31) = 16) → ((((xs (ix y3)) &&& 31) = 17 → (vp_in (y3 + 1) L ∧ (wp_X4_count σ (xs (ix (y3 + 1))) (fun σ205 r206 => (vp_in (y3 + 1) L ∧ (wp_X5_count σ205 (xs (ix (y3 + 1))) (fun σ209 r210 => ((r206 = r210 → lpL xs L n σ209 (y3 + 6)) ∧ (¬ (r206 = r210) → False))))))))) ∧ (¬ (((xs (ix y3)) &&& 31) = 17) → lpL xs L n σ (y3 + 6))))))))))))))))))))))))))))))))))))))))
set_option maxHeartbeats 4000000 in
set_option maxRecDepth 100000 in
theorem law_loop {p : Program} {l : Launch} {e : Env} {s : State} {m : MethodId} {below : List Frame} {meth : Method} {c : Code} {D : va_G} {P : List (Nat × Nat)} {ad : Nat × Nat → Nat} {cy : Nat → ClassId} {b L : Nat} {xs : Nat → Int32} (hAd : AdOk P ad) (hC : InC P) (hM : InM P) (hA : ∀ i, i ∈ P → s.heap.size ≤ ad i) (hK : Kn D cy s) (C0 : lw_At p s m meth c b L xs) : ∀ (n : Nat) (σ : Sg) (y3 : Int32) (H : Heap) (locs : List Loc) (ls : Array Slot), lpL xs L n σ y3 → Wo D P ad cy σ H → va_S (Aof P ad) s.heap H locs → lv_has ls 4 [(0, .ref b), (1, .ref (ad (0, 0))), (2, .ref (ad (20, 0))), (3, .int y3)] → W p l e room_1 s m #[Value.ref b] below meth c H locs 600000 7302250 (lw_Z below #[Value.ref b] s) (F0 m 18 ls []) := by
  obtain ⟨hx, hb, hr, hml, hown, hts, hX, hbl, hlocks, hgv⟩ := C0
  have hts : ∀ w ∈ wsL_law, w.before #[Value.ref b] s = true := fun w h => hts w (wsL_law_in w h)
  have hown : s.vm.findClass RL = some m.cls := hown
  have hbA : ¬ Aof P ad b := fun ⟨i, hi, e⟩ => by have := hA i hi; omega
  intro n
  induction n with
  | zero => intro σ y3 H locs ls h; exact h.elim
  | succ n ih =>
    intro σ y3 H locs ls h hP hS hl
    rw [lpL] at h
    refine lv_iload_n hx hb dL_law_18 rfl (lv_at hl 3 rfl) ?_
    refine lv_aload_n hx hb dL_law_19 rfl (lv_at hl 0 rfl) ?_
    refine va_slen hx hb hX hbl hbA hS dL_law_20 ?_
    refine lv_bipush (v := 6) hx hb dL_law_21 (by decide) ?_
    refine lv_isub hx hb dL_law_23 ?_
    refine lv_icmp_gt (tgt := 713) hx hb dL_law_24 (by decide) (fun c1 => ?_) (fun c1 => ?_)
    · have h := h.1 c1
      refine lv_iconst (v := 1) hx hb dL_law_713 (by decide) ?_
      refine va_forget (fun q hq => by obtain ⟨i, hi, e⟩ := hS.2.2 q hq; rw [e]; exact hA i hi) ?_
      exact lw_ret hx hb hr hlocks dL_law_714
    · have h := h.2 c1
      refine lv_aload_n hx hb dL_law_27 rfl (lv_at hl 0 rfl) ?_
      refine lv_iload_n hx hb dL_law_28 rfl (lv_at hl 3 rfl) ?_
      have hin2 := h.1
      have h := h.2
      refine va_sld hx hb hX hbl hbA hS hin2 dL_law_29 ?_
      refine lv_bipush (v := 31) hx hb dL_law_30 (by decide) ?_
      refine lv_iand hx hb dL_law_32 ?_
      by_cases c3 : ((xs (ix y3)) &&& 31) = 0
      · have h := h.1 c3
        refine lv_tableIn (off := 87) (tgt := 120) hx hb dL_law_33 (by rw [c3]; decide) (by rw [c3]; decide) (by rw [c3]; decide +kernel) (by decide) ?_
        refine lv_aload_n hx hb dL_law_120 rfl (lv_at hl 1 rfl) ?_
        refine lv_aload_n hx hb dL_law_121 rfl (lv_at hl 0 rfl) ?_
        refine lv_iload_n hx hb dL_law_122 rfl (lv_at hl 3 rfl) ?_
        refine lv_iconst (v := 1) hx hb dL_law_123 (by decide) ?_
        refine lv_iadd hx hb dL_law_124 ?_
        have hin4 := h.1
        have h := h.2
        refine va_sld hx hb hX hbl hbA hS hin4 dL_law_125 ?_
        refine x_cVi (C := RX4) (As := [.int (xs (ix (y3 + 1)))]) (rest := []) ⟨hx, hb, hml, hown, hts⟩ hK hP hS (c_X4_begin l hAd hC σ (xs (ix (y3 + 1))) _ h) (cwV 1 hts gL_law_X4_begin rfl rfl rfl (by decide +kernel) ⟨Nat.le_of_ble_eq_true rfl, Nat.le_of_ble_eq_true rfl⟩) (x_recv hK hP (in1 hC (a := 0) (by decide) (by decide)) rfl rfl) rfl hl.1 rfl (Nat.le_of_ble_eq_true rfl) dL_law_126 ⟨Nat.le_refl _, Nat.le_refl _⟩ (fun r6 σ5 H locs h hP hS => ?_)
        refine lv_aload_n hx hb dL_law_129 rfl (lv_at hl 2 rfl) ?_
        refine lv_aload_n hx hb dL_law_130 rfl (lv_at hl 0 rfl) ?_
        refine lv_iload_n hx hb dL_law_131 rfl (lv_at hl 3 rfl) ?_
        refine lv_iconst (v := 1) hx hb dL_law_132 (by decide) ?_
        refine lv_iadd hx hb dL_law_133 ?_
        have hin8 := h.1
        have h := h.2
        refine va_sld hx hb hX hbl hbA hS hin8 dL_law_134 ?_
        refine x_cVi (C := RX5) (As := [.int (xs (ix (y3 + 1)))]) (rest := [.int r6]) ⟨hx, hb, hml, hown, hts⟩ hK hP hS (c_X5_begin l hAd hM σ5 (xs (ix (y3 + 1))) _ h) (cwV 1 hts gL_law_X5_begin rfl rfl rfl (by decide +kernel) ⟨Nat.le_of_ble_eq_true rfl, Nat.le_of_ble_eq_true rfl⟩) (x_recv hK hP (in1m hM (a := 20) (by decide) (by decide)) rfl rfl) rfl hl.1 rfl (Nat.le_of_ble_eq_true rfl) dL_law_135 ⟨Nat.le_refl _, Nat.le_refl _⟩ (fun r10 σ9 H locs h hP hS => ?_)
        refine lv_icmp_eq (tgt := 707) hx hb dL_law_138 (by decide) (fun c12 => ?_) (fun c12 => ?_)
        · have h := h.1 c12
          refine lv_iinc (v := (y3 + 6)) (lv' := [(3, .int (y3 + 6)), (0, .ref b), (1, .ref (ad (0, 0))), (2, .ref (ad (20, 0)))]) hx hb dL_law_707 hl (k := 3) rfl rfl (by decide) rfl (fun ls hl => ?_)
          refine lv_goto (tgt := 18) hx hb dL_law_710 (by decide) ?_
          exact ih σ9 (y3 + 6) _ _ _ h hP hS (lv_sub hl [1, 2, 3, 0] rfl)
        · have h := h.2 c12
          refine lv_iconst (v := 0) hx hb dL_law_141 (by decide) ?_
          exact h.elim
      · have h := h.2 c3
        by_cases c13 : ((xs (ix y3)) &&& 31) = 1
        · have h := h.1 c13
          refine lv_tableIn (off := 110) (tgt := 143) hx hb dL_law_33 (by rw [c13]; decide) (by rw [c13]; decide) (by rw [c13]; decide +kernel) (by decide) ?_
          refine lv_aload_n hx hb dL_law_143 rfl (lv_at hl 1 rfl) ?_
          refine lv_aload_n hx hb dL_law_144 rfl (lv_at hl 0 rfl) ?_
          refine lv_iload_n hx hb dL_law_145 rfl (lv_at hl 3 rfl) ?_
          refine lv_iconst (v := 1) hx hb dL_law_146 (by decide) ?_
          refine lv_iadd hx hb dL_law_147 ?_
          have hin14 := h.1
          have h := h.2
          refine va_sld hx hb hX hbl hbA hS hin14 dL_law_148 ?_
          refine lv_aload_n hx hb dL_law_149 rfl (lv_at hl 0 rfl) ?_
          refine lv_iload_n hx hb dL_law_150 rfl (lv_at hl 3 rfl) ?_
          refine lv_iconst (v := 2) hx hb dL_law_151 (by decide) ?_
          refine lv_iadd hx hb dL_law_152 ?_
          have hin15 := h.1
          have h := h.2
          refine va_sld hx hb hX hbl hbA hS hin15 dL_law_153 ?_
          refine lv_aload_n hx hb dL_law_154 rfl (lv_at hl 0 rfl) ?_
          refine lv_iload_n hx hb dL_law_155 rfl (lv_at hl 3 rfl) ?_
          refine lv_iconst (v := 3) hx hb dL_law_156 (by decide) ?_
          refine lv_iadd hx hb dL_law_157 ?_
          have hin16 := h.1
          have h := h.2
          refine va_sld hx hb hX hbl hbA hS hin16 dL_law_158 ?_
          refine x_cVi (C := RX4) (As := [.int (xs (ix (y3 + 1))), .int (xs (ix (y3 + 2))), .int (xs (ix (y3 + 3)))]) (rest := []) ⟨hx, hb, hml, hown, hts⟩ hK hP hS (c_X4_read l hAd hC σ (xs (ix (y3 + 1))) (xs (ix (y3 + 2))) (xs (ix (y3 + 3))) _ h) (cwV 3 hts gL_law_X4_read rfl rfl rfl (by decide +kernel) ⟨Nat.le_of_ble_eq_true rfl, Nat.le_of_ble_eq_true rfl⟩) (x_recv hK hP (in1 hC (a := 0) (by decide) (by decide)) rfl rfl) rfl hl.1 rfl (Nat.le_of_ble_eq_true rfl) dL_law_159 ⟨Nat.le_refl _, Nat.le_refl _⟩ (fun r18 σ17 H locs h hP hS => ?_)
          refine lv_aload_n hx hb dL_law_162 rfl (lv_at hl 2 rfl) ?_
          refine lv_aload_n hx hb dL_law_163 rfl (lv_at hl 0 rfl) ?_
          refine lv_iload_n hx hb dL_law_164 rfl (lv_at hl 3 rfl) ?_
          refine lv_iconst (v := 1) hx hb dL_law_165 (by decide) ?_
          refine lv_iadd hx hb dL_law_166 ?_
          have hin20 := h.1
          have h := h.2
          refine va_sld hx hb hX hbl hbA hS hin20 dL_law_167 ?_
          refine lv_aload_n hx hb dL_law_168 rfl (lv_at hl 0 rfl) ?_
          refine lv_iload_n hx hb dL_law_169 rfl (lv_at hl 3 rfl) ?_
          refine lv_iconst (v := 2) hx hb dL_law_170 (by decide) ?_
          refine lv_iadd hx hb dL_law_171 ?_
          have hin21 := h.1
          have h := h.2
          refine va_sld hx hb hX hbl hbA hS hin21 dL_law_172 ?_
          refine lv_aload_n hx hb dL_law_173 rfl (lv_at hl 0 rfl) ?_
          refine lv_iload_n hx hb dL_law_174 rfl (lv_at hl 3 rfl) ?_
          refine lv_iconst (v := 3) hx hb dL_law_175 (by decide) ?_
          refine lv_iadd hx hb dL_law_176 ?_
          have hin22 := h.1
          have h := h.2
          refine va_sld hx hb hX hbl hbA hS hin22 dL_law_177 ?_
          refine x_cVi (C := RX5) (As := [.int (xs (ix (y3 + 1))), .int (xs (ix (y3 + 2))), .int (xs (ix (y3 + 3)))]) (rest := [.int r18]) ⟨hx, hb, hml, hown, hts⟩ hK hP hS (c_X5_read l hAd hM σ17 (xs (ix (y3 + 1))) (xs (ix (y3 + 2))) (xs (ix (y3 + 3))) _ h) (cwV 3 hts gL_law_X5_read rfl rfl rfl (by decide +kernel) ⟨Nat.le_of_ble_eq_true rfl, Nat.le_of_ble_eq_true rfl⟩) (x_recv hK hP (in1m hM (a := 20) (by decide) (by decide)) rfl rfl) rfl hl.1 rfl (Nat.le_of_ble_eq_true rfl) dL_law_178 ⟨Nat.le_refl _, Nat.le_refl _⟩ (fun r24 σ23 H locs h hP hS => ?_)
          refine lv_icmp_eq (tgt := 707) hx hb dL_law_181 (by decide) (fun c26 => ?_) (fun c26 => ?_)
          · have h := h.1 c26
            refine lv_iinc (v := (y3 + 6)) (lv' := [(3, .int (y3 + 6)), (0, .ref b), (1, .ref (ad (0, 0))), (2, .ref (ad (20, 0)))]) hx hb dL_law_707 hl (k := 3) rfl rfl (by decide) rfl (fun ls hl => ?_)
            refine lv_goto (tgt := 18) hx hb dL_law_710 (by decide) ?_
            exact ih σ23 (y3 + 6) _ _ _ h hP hS (lv_sub hl [1, 2, 3, 0] rfl)
          · have h := h.2 c26
            refine lv_iconst (v := 0) hx hb dL_law_184 (by decide) ?_
            exact h.elim
        · have h := h.2 c13
          by_cases c27 : ((xs (ix y3)) &&& 31) = 2
          · have h := h.1 c27
            refine lv_tableIn (off := 153) (tgt := 186) hx hb dL_law_33 (by rw [c27]; decide) (by rw [c27]; decide) (by rw [c27]; decide +kernel) (by decide) ?_
            refine lv_aload_n hx hb dL_law_186 rfl (lv_at hl 1 rfl) ?_
            refine lv_aload_n hx hb dL_law_187 rfl (lv_at hl 0 rfl) ?_
            refine lv_iload_n hx hb dL_law_188 rfl (lv_at hl 3 rfl) ?_
            refine lv_iconst (v := 1) hx hb dL_law_189 (by decide) ?_
            refine lv_iadd hx hb dL_law_190 ?_
            have hin28 := h.1
            have h := h.2
            refine va_sld hx hb hX hbl hbA hS hin28 dL_law_191 ?_
            refine lv_aload_n hx hb dL_law_192 rfl (lv_at hl 0 rfl) ?_
            refine lv_iload_n hx hb dL_law_193 rfl (lv_at hl 3 rfl) ?_
            refine lv_iconst (v := 2) hx hb dL_law_194 (by decide) ?_
            refine lv_iadd hx hb dL_law_195 ?_
            have hin29 := h.1
            have h := h.2
            refine va_sld hx hb hX hbl hbA hS hin29 dL_law_196 ?_
            refine lv_aload_n hx hb dL_law_197 rfl (lv_at hl 0 rfl) ?_
            refine lv_iload_n hx hb dL_law_198 rfl (lv_at hl 3 rfl) ?_
            refine lv_iconst (v := 3) hx hb dL_law_199 (by decide) ?_
            refine lv_iadd hx hb dL_law_200 ?_
            have hin30 := h.1
            have h := h.2
            refine va_sld hx hb hX hbl hbA hS hin30 dL_law_201 ?_
            refine lv_aload_n hx hb dL_law_202 rfl (lv_at hl 0 rfl) ?_
            refine lv_iload_n hx hb dL_law_203 rfl (lv_at hl 3 rfl) ?_
            refine lv_iconst (v := 4) hx hb dL_law_204 (by decide) ?_
            refine lv_iadd hx hb dL_law_205 ?_
            have hin31 := h.1
            have h := h.2
            refine va_sld hx hb hX hbl hbA hS hin31 dL_law_206 ?_
            refine lv_i2l hx hb dL_law_207 rfl ?_
            refine lv_bipush (v := 32) hx hb dL_law_208 (by decide) ?_
            refine lv_lshl hx hb dL_law_210 rfl ?_
            refine lv_aload_n hx hb dL_law_211 rfl (lv_at hl 0 rfl) ?_
            refine lv_iload_n hx hb dL_law_212 rfl (lv_at hl 3 rfl) ?_
            refine lv_iconst (v := 5) hx hb dL_law_213 (by decide) ?_
            refine lv_iadd hx hb dL_law_214 ?_
            have hin32 := h.1
            have h := h.2
            refine va_sld hx hb hX hbl hbA hS hin32 dL_law_215 ?_
            refine lv_i2l hx hb dL_law_216 rfl ?_
            refine lv_ldc2 (v := 4294967295) hx hb hown (hts (.constantLong RL 23 4294967295) (by decide +kernel)) dL_law_217 ?_
            refine lv_land hx hb dL_law_220 ?_
            refine lv_lor hx hb dL_law_221 ?_
            refine x_cVi (C := RX4) (As := [.int (xs (ix (y3 + 1))), .int (xs (ix (y3 + 2))), .int (xs (ix (y3 + 3))), .long (((((xs (ix (y3 + 4))) : Int32).toInt64) <<< ((32 : Int32).toInt64 &&& 63)) ||| ((((xs (ix (y3 + 5))) : Int32).toInt64) &&& 4294967295))]) (rest := []) ⟨hx, hb, hml, hown, hts⟩ hK hP hS (c_X4_write l hAd hC σ (xs (ix (y3 + 1))) (xs (ix (y3 + 2))) (xs (ix (y3 + 3))) (((((xs (ix (y3 + 4))) : Int32).toInt64) <<< ((32 : Int32).toInt64 &&& 63)) ||| ((((xs (ix (y3 + 5))) : Int32).toInt64) &&& 4294967295)) _ h) (cwV 4 hts gL_law_X4_write rfl rfl rfl (by decide +kernel) ⟨Nat.le_of_ble_eq_true rfl, Nat.le_of_ble_eq_true rfl⟩) (x_recv hK hP (in1 hC (a := 0) (by decide) (by decide)) rfl rfl) rfl hl.1 rfl (Nat.le_of_ble_eq_true rfl) dL_law_222 ⟨Nat.le_refl _, Nat.le_refl _⟩ (fun r34 σ33 H locs h hP hS => ?_)
            refine lv_aload_n hx hb dL_law_225 rfl (lv_at hl 2 rfl) ?_
            refine lv_aload_n hx hb dL_law_226 rfl (lv_at hl 0 rfl) ?_
            refine lv_iload_n hx hb dL_law_227 rfl (lv_at hl 3 rfl) ?_
            refine lv_iconst (v := 1) hx hb dL_law_228 (by decide) ?_
            refine lv_iadd hx hb dL_law_229 ?_
            have hin36 := h.1
            have h := h.2
            refine va_sld hx hb hX hbl hbA hS hin36 dL_law_230 ?_
            refine lv_aload_n hx hb dL_law_231 rfl (lv_at hl 0 rfl) ?_
            refine lv_iload_n hx hb dL_law_232 rfl (lv_at hl 3 rfl) ?_
            refine lv_iconst (v := 2) hx hb dL_law_233 (by decide) ?_
            refine lv_iadd hx hb dL_law_234 ?_
            have hin37 := h.1
            have h := h.2
            refine va_sld hx hb hX hbl hbA hS hin37 dL_law_235 ?_
            refine lv_aload_n hx hb dL_law_236 rfl (lv_at hl 0 rfl) ?_
            refine lv_iload_n hx hb dL_law_237 rfl (lv_at hl 3 rfl) ?_
            refine lv_iconst (v := 3) hx hb dL_law_238 (by decide) ?_
            refine lv_iadd hx hb dL_law_239 ?_
            have hin38 := h.1
            have h := h.2
            refine va_sld hx hb hX hbl hbA hS hin38 dL_law_240 ?_
            refine lv_aload_n hx hb dL_law_241 rfl (lv_at hl 0 rfl) ?_
            refine lv_iload_n hx hb dL_law_242 rfl (lv_at hl 3 rfl) ?_
            refine lv_iconst (v := 4) hx hb dL_law_243 (by decide) ?_
            refine lv_iadd hx hb dL_law_244 ?_
            have hin39 := h.1
            have h := h.2
            refine va_sld hx hb hX hbl hbA hS hin39 dL_law_245 ?_
            refine lv_i2l hx hb dL_law_246 rfl ?_
            refine lv_bipush (v := 32) hx hb dL_law_247 (by decide) ?_
            refine lv_lshl hx hb dL_law_249 rfl ?_
            refine lv_aload_n hx hb dL_law_250 rfl (lv_at hl 0 rfl) ?_
            refine lv_iload_n hx hb dL_law_251 rfl (lv_at hl 3 rfl) ?_
            refine lv_iconst (v := 5) hx hb dL_law_252 (by decide) ?_
            refine lv_iadd hx hb dL_law_253 ?_
            have hin40 := h.1
            have h := h.2
            refine va_sld hx hb hX hbl hbA hS hin40 dL_law_254 ?_
            refine lv_i2l hx hb dL_law_255 rfl ?_
            refine lv_ldc2 (v := 4294967295) hx hb hown (hts (.constantLong RL 23 4294967295) (by decide +kernel)) dL_law_256 ?_
            refine lv_land hx hb dL_law_259 ?_
            refine lv_lor hx hb dL_law_260 ?_
            refine x_cVi (C := RX5) (As := [.int (xs (ix (y3 + 1))), .int (xs (ix (y3 + 2))), .int (xs (ix (y3 + 3))), .long (((((xs (ix (y3 + 4))) : Int32).toInt64) <<< ((32 : Int32).toInt64 &&& 63)) ||| ((((xs (ix (y3 + 5))) : Int32).toInt64) &&& 4294967295))]) (rest := [.int r34]) ⟨hx, hb, hml, hown, hts⟩ hK hP hS (c_X5_write l hAd hM σ33 (xs (ix (y3 + 1))) (xs (ix (y3 + 2))) (xs (ix (y3 + 3))) (((((xs (ix (y3 + 4))) : Int32).toInt64) <<< ((32 : Int32).toInt64 &&& 63)) ||| ((((xs (ix (y3 + 5))) : Int32).toInt64) &&& 4294967295)) _ h) (cwV 4 hts gL_law_X5_write rfl rfl rfl (by decide +kernel) ⟨Nat.le_of_ble_eq_true rfl, Nat.le_of_ble_eq_true rfl⟩) (x_recv hK hP (in1m hM (a := 20) (by decide) (by decide)) rfl rfl) rfl hl.1 rfl (Nat.le_of_ble_eq_true rfl) dL_law_261 ⟨Nat.le_refl _, Nat.le_refl _⟩ (fun r42 σ41 H locs h hP hS => ?_)
            refine lv_icmp_eq (tgt := 707) hx hb dL_law_264 (by decide) (fun c44 => ?_) (fun c44 => ?_)
            · have h := h.1 c44
              refine lv_iinc (v := (y3 + 6)) (lv' := [(3, .int (y3 + 6)), (0, .ref b), (1, .ref (ad (0, 0))), (2, .ref (ad (20, 0)))]) hx hb dL_law_707 hl (k := 3) rfl rfl (by decide) rfl (fun ls hl => ?_)
              refine lv_goto (tgt := 18) hx hb dL_law_710 (by decide) ?_
              exact ih σ41 (y3 + 6) _ _ _ h hP hS (lv_sub hl [1, 2, 3, 0] rfl)
            · have h := h.2 c44
              refine lv_iconst (v := 0) hx hb dL_law_267 (by decide) ?_
              exact h.elim
          · have h := h.2 c27
            by_cases c45 : ((xs (ix y3)) &&& 31) = 3
            · have h := h.1 c45
              refine lv_tableIn (off := 236) (tgt := 269) hx hb dL_law_33 (by rw [c45]; decide) (by rw [c45]; decide) (by rw [c45]; decide +kernel) (by decide) ?_
              refine lv_aload_n hx hb dL_law_269 rfl (lv_at hl 1 rfl) ?_
              refine lv_aload_n hx hb dL_law_270 rfl (lv_at hl 0 rfl) ?_
              refine lv_iload_n hx hb dL_law_271 rfl (lv_at hl 3 rfl) ?_
              refine lv_iconst (v := 1) hx hb dL_law_272 (by decide) ?_
              refine lv_iadd hx hb dL_law_273 ?_
              have hin46 := h.1
              have h := h.2
              refine va_sld hx hb hX hbl hbA hS hin46 dL_law_274 ?_
              refine x_cVi (C := RX4) (As := [.int (xs (ix (y3 + 1)))]) (rest := []) ⟨hx, hb, hml, hown, hts⟩ hK hP hS (c_X4_deliver l hAd hC σ (xs (ix (y3 + 1))) _ h) (cwV 1 hts gL_law_X4_deliver rfl rfl rfl (by decide +kernel) ⟨Nat.le_of_ble_eq_true rfl, Nat.le_of_ble_eq_true rfl⟩) (x_recv hK hP (in1 hC (a := 0) (by decide) (by decide)) rfl rfl) rfl hl.1 rfl (Nat.le_of_ble_eq_true rfl) dL_law_275 ⟨Nat.le_refl _, Nat.le_refl _⟩ (fun r48 σ47 H locs h hP hS => ?_)
              refine lv_aload_n hx hb dL_law_278 rfl (lv_at hl 2 rfl) ?_
              refine lv_aload_n hx hb dL_law_279 rfl (lv_at hl 0 rfl) ?_
              refine lv_iload_n hx hb dL_law_280 rfl (lv_at hl 3 rfl) ?_
              refine lv_iconst (v := 1) hx hb dL_law_281 (by decide) ?_
              refine lv_iadd hx hb dL_law_282 ?_
              have hin50 := h.1
              have h := h.2
              refine va_sld hx hb hX hbl hbA hS hin50 dL_law_283 ?_
              refine x_cVi (C := RX5) (As := [.int (xs (ix (y3 + 1)))]) (rest := [.int r48]) ⟨hx, hb, hml, hown, hts⟩ hK hP hS (c_X5_deliver l hAd hM σ47 (xs (ix (y3 + 1))) _ h) (cwV 1 hts gL_law_X5_deliver rfl rfl rfl (by decide +kernel) ⟨Nat.le_of_ble_eq_true rfl, Nat.le_of_ble_eq_true rfl⟩) (x_recv hK hP (in1m hM (a := 20) (by decide) (by decide)) rfl rfl) rfl hl.1 rfl (Nat.le_of_ble_eq_true rfl) dL_law_284 ⟨Nat.le_refl _, Nat.le_refl _⟩ (fun r52 σ51 H locs h hP hS => ?_)
              refine lv_icmp_eq (tgt := 707) hx hb dL_law_287 (by decide) (fun c54 => ?_) (fun c54 => ?_)
              · have h := h.1 c54
                refine lv_iinc (v := (y3 + 6)) (lv' := [(3, .int (y3 + 6)), (0, .ref b), (1, .ref (ad (0, 0))), (2, .ref (ad (20, 0)))]) hx hb dL_law_707 hl (k := 3) rfl rfl (by decide) rfl (fun ls hl => ?_)
                refine lv_goto (tgt := 18) hx hb dL_law_710 (by decide) ?_
                exact ih σ51 (y3 + 6) _ _ _ h hP hS (lv_sub hl [1, 2, 3, 0] rfl)
              · have h := h.2 c54
                refine lv_iconst (v := 0) hx hb dL_law_290 (by decide) ?_
                exact h.elim
            · have h := h.2 c45
              by_cases c55 : ((xs (ix y3)) &&& 31) = 4
              · have h := h.1 c55
                refine lv_tableIn (off := 259) (tgt := 292) hx hb dL_law_33 (by rw [c55]; decide) (by rw [c55]; decide) (by rw [c55]; decide +kernel) (by decide) ?_
                refine lv_aload_n hx hb dL_law_292 rfl (lv_at hl 1 rfl) ?_
                refine lv_aload_n hx hb dL_law_293 rfl (lv_at hl 0 rfl) ?_
                refine lv_iload_n hx hb dL_law_294 rfl (lv_at hl 3 rfl) ?_
                refine lv_iconst (v := 1) hx hb dL_law_295 (by decide) ?_
                refine lv_iadd hx hb dL_law_296 ?_
                have hin56 := h.1
                have h := h.2
                refine va_sld hx hb hX hbl hbA hS hin56 dL_law_297 ?_
                refine x_cVi (C := RX4) (As := [.int (xs (ix (y3 + 1)))]) (rest := []) ⟨hx, hb, hml, hown, hts⟩ hK hP hS (c_X4_waits l hAd hC σ (xs (ix (y3 + 1))) _ h) (cwV 1 hts gL_law_X4_waits rfl rfl rfl (by decide +kernel) ⟨Nat.le_of_ble_eq_true rfl, Nat.le_of_ble_eq_true rfl⟩) (x_recv hK hP (in1 hC (a := 0) (by decide) (by decide)) rfl rfl) rfl hl.1 rfl (Nat.le_of_ble_eq_true rfl) dL_law_298 ⟨Nat.le_refl _, Nat.le_refl _⟩ (fun r58 σ57 H locs h hP hS => ?_)
                refine lv_aload_n hx hb dL_law_301 rfl (lv_at hl 2 rfl) ?_
                refine lv_aload_n hx hb dL_law_302 rfl (lv_at hl 0 rfl) ?_
                refine lv_iload_n hx hb dL_law_303 rfl (lv_at hl 3 rfl) ?_
                refine lv_iconst (v := 1) hx hb dL_law_304 (by decide) ?_
                refine lv_iadd hx hb dL_law_305 ?_
                have hin60 := h.1
                have h := h.2
                refine va_sld hx hb hX hbl hbA hS hin60 dL_law_306 ?_
                refine x_cVi (C := RX5) (As := [.int (xs (ix (y3 + 1)))]) (rest := [.int r58]) ⟨hx, hb, hml, hown, hts⟩ hK hP hS (c_X5_waits l hAd hM σ57 (xs (ix (y3 + 1))) _ h) (cwV 1 hts gL_law_X5_waits rfl rfl rfl (by decide +kernel) ⟨Nat.le_of_ble_eq_true rfl, Nat.le_of_ble_eq_true rfl⟩) (x_recv hK hP (in1m hM (a := 20) (by decide) (by decide)) rfl rfl) rfl hl.1 rfl (Nat.le_of_ble_eq_true rfl) dL_law_307 ⟨Nat.le_refl _, Nat.le_refl _⟩ (fun r62 σ61 H locs h hP hS => ?_)
                refine lv_icmp_eq (tgt := 707) hx hb dL_law_310 (by decide) (fun c64 => ?_) (fun c64 => ?_)
                · have h := h.1 c64
                  refine lv_iinc (v := (y3 + 6)) (lv' := [(3, .int (y3 + 6)), (0, .ref b), (1, .ref (ad (0, 0))), (2, .ref (ad (20, 0)))]) hx hb dL_law_707 hl (k := 3) rfl rfl (by decide) rfl (fun ls hl => ?_)
                  refine lv_goto (tgt := 18) hx hb dL_law_710 (by decide) ?_
                  exact ih σ61 (y3 + 6) _ _ _ h hP hS (lv_sub hl [1, 2, 3, 0] rfl)
                · have h := h.2 c64
                  refine lv_iconst (v := 0) hx hb dL_law_313 (by decide) ?_
                  exact h.elim
              · have h := h.2 c55
                by_cases c65 : ((xs (ix y3)) &&& 31) = 5
                · have h := h.1 c65
                  refine lv_tableIn (off := 282) (tgt := 315) hx hb dL_law_33 (by rw [c65]; decide) (by rw [c65]; decide) (by rw [c65]; decide +kernel) (by decide) ?_
                  refine lv_aload_n hx hb dL_law_315 rfl (lv_at hl 1 rfl) ?_
                  refine lv_aload_n hx hb dL_law_316 rfl (lv_at hl 0 rfl) ?_
                  refine lv_iload_n hx hb dL_law_317 rfl (lv_at hl 3 rfl) ?_
                  refine lv_iconst (v := 1) hx hb dL_law_318 (by decide) ?_
                  refine lv_iadd hx hb dL_law_319 ?_
                  have hin66 := h.1
                  have h := h.2
                  refine va_sld hx hb hX hbl hbA hS hin66 dL_law_320 ?_
                  refine lv_aload_n hx hb dL_law_321 rfl (lv_at hl 0 rfl) ?_
                  refine lv_iload_n hx hb dL_law_322 rfl (lv_at hl 3 rfl) ?_
                  refine lv_iconst (v := 2) hx hb dL_law_323 (by decide) ?_
                  refine lv_iadd hx hb dL_law_324 ?_
                  have hin67 := h.1
                  have h := h.2
                  refine va_sld hx hb hX hbl hbA hS hin67 dL_law_325 ?_
                  refine x_cVi (C := RX4) (As := [.int (xs (ix (y3 + 1))), .int (xs (ix (y3 + 2)))]) (rest := []) ⟨hx, hb, hml, hown, hts⟩ hK hP hS (c_X4_at l hAd hC σ (xs (ix (y3 + 1))) (xs (ix (y3 + 2))) _ h) (cwV 2 hts gL_law_X4_at rfl rfl rfl (by decide +kernel) ⟨Nat.le_of_ble_eq_true rfl, Nat.le_of_ble_eq_true rfl⟩) (x_recv hK hP (in1 hC (a := 0) (by decide) (by decide)) rfl rfl) rfl hl.1 rfl (Nat.le_of_ble_eq_true rfl) dL_law_326 ⟨Nat.le_refl _, Nat.le_refl _⟩ (fun r69 σ68 H locs h hP hS => ?_)
                  refine lv_aload_n hx hb dL_law_329 rfl (lv_at hl 2 rfl) ?_
                  refine lv_aload_n hx hb dL_law_330 rfl (lv_at hl 0 rfl) ?_
                  refine lv_iload_n hx hb dL_law_331 rfl (lv_at hl 3 rfl) ?_
                  refine lv_iconst (v := 1) hx hb dL_law_332 (by decide) ?_
                  refine lv_iadd hx hb dL_law_333 ?_
                  have hin71 := h.1
                  have h := h.2
                  refine va_sld hx hb hX hbl hbA hS hin71 dL_law_334 ?_
                  refine lv_aload_n hx hb dL_law_335 rfl (lv_at hl 0 rfl) ?_
                  refine lv_iload_n hx hb dL_law_336 rfl (lv_at hl 3 rfl) ?_
                  refine lv_iconst (v := 2) hx hb dL_law_337 (by decide) ?_
                  refine lv_iadd hx hb dL_law_338 ?_
                  have hin72 := h.1
                  have h := h.2
                  refine va_sld hx hb hX hbl hbA hS hin72 dL_law_339 ?_
                  refine x_cVi (C := RX5) (As := [.int (xs (ix (y3 + 1))), .int (xs (ix (y3 + 2)))]) (rest := [.int r69]) ⟨hx, hb, hml, hown, hts⟩ hK hP hS (c_X5_at l hAd hM σ68 (xs (ix (y3 + 1))) (xs (ix (y3 + 2))) _ h) (cwV 2 hts gL_law_X5_at rfl rfl rfl (by decide +kernel) ⟨Nat.le_of_ble_eq_true rfl, Nat.le_of_ble_eq_true rfl⟩) (x_recv hK hP (in1m hM (a := 20) (by decide) (by decide)) rfl rfl) rfl hl.1 rfl (Nat.le_of_ble_eq_true rfl) dL_law_340 ⟨Nat.le_refl _, Nat.le_refl _⟩ (fun r74 σ73 H locs h hP hS => ?_)
                  refine lv_icmp_eq (tgt := 707) hx hb dL_law_343 (by decide) (fun c76 => ?_) (fun c76 => ?_)
                  · have h := h.1 c76
                    refine lv_iinc (v := (y3 + 6)) (lv' := [(3, .int (y3 + 6)), (0, .ref b), (1, .ref (ad (0, 0))), (2, .ref (ad (20, 0)))]) hx hb dL_law_707 hl (k := 3) rfl rfl (by decide) rfl (fun ls hl => ?_)
                    refine lv_goto (tgt := 18) hx hb dL_law_710 (by decide) ?_
                    exact ih σ73 (y3 + 6) _ _ _ h hP hS (lv_sub hl [1, 2, 3, 0] rfl)
                  · have h := h.2 c76
                    refine lv_iconst (v := 0) hx hb dL_law_346 (by decide) ?_
                    exact h.elim
                · have h := h.2 c65
                  by_cases c77 : ((xs (ix y3)) &&& 31) = 6
                  · have h := h.1 c77
                    refine lv_tableIn (off := 315) (tgt := 348) hx hb dL_law_33 (by rw [c77]; decide) (by rw [c77]; decide) (by rw [c77]; decide +kernel) (by decide) ?_
                    refine lv_aload_n hx hb dL_law_348 rfl (lv_at hl 1 rfl) ?_
                    refine lv_aload_n hx hb dL_law_349 rfl (lv_at hl 0 rfl) ?_
                    refine lv_iload_n hx hb dL_law_350 rfl (lv_at hl 3 rfl) ?_
                    refine lv_iconst (v := 1) hx hb dL_law_351 (by decide) ?_
                    refine lv_iadd hx hb dL_law_352 ?_
                    have hin78 := h.1
                    have h := h.2
                    refine va_sld hx hb hX hbl hbA hS hin78 dL_law_353 ?_
                    refine x_cVl (C := RX4) (As := [.int (xs (ix (y3 + 1)))]) (rest := []) ⟨hx, hb, hml, hown, hts⟩ hK hP hS (c_X4_result l hAd hC σ (xs (ix (y3 + 1))) _ h) (cwV 1 hts gL_law_X4_result rfl rfl rfl (by decide +kernel) ⟨Nat.le_of_ble_eq_true rfl, Nat.le_of_ble_eq_true rfl⟩) (x_recv hK hP (in1 hC (a := 0) (by decide) (by decide)) rfl rfl) rfl hl.1 rfl (Nat.le_of_ble_eq_true rfl) dL_law_354 ⟨Nat.le_refl _, Nat.le_refl _⟩ (fun r80 σ79 H locs h hP hS => ?_)
                    refine lv_aload_n hx hb dL_law_357 rfl (lv_at hl 2 rfl) ?_
                    refine lv_aload_n hx hb dL_law_358 rfl (lv_at hl 0 rfl) ?_
                    refine lv_iload_n hx hb dL_law_359 rfl (lv_at hl 3 rfl) ?_
                    refine lv_iconst (v := 1) hx hb dL_law_360 (by decide) ?_
                    refine lv_iadd hx hb dL_law_361 ?_
                    have hin82 := h.1
                    have h := h.2
                    refine va_sld hx hb hX hbl hbA hS hin82 dL_law_362 ?_
                    refine x_cVl (C := RX5) (As := [.int (xs (ix (y3 + 1)))]) (rest := [.long r80]) ⟨hx, hb, hml, hown, hts⟩ hK hP hS (c_X5_result l hAd hM σ79 (xs (ix (y3 + 1))) _ h) (cwV 1 hts gL_law_X5_result rfl rfl rfl (by decide +kernel) ⟨Nat.le_of_ble_eq_true rfl, Nat.le_of_ble_eq_true rfl⟩) (x_recv hK hP (in1m hM (a := 20) (by decide) (by decide)) rfl rfl) rfl hl.1 rfl (Nat.le_of_ble_eq_true rfl) dL_law_363 ⟨Nat.le_refl _, Nat.le_refl _⟩ (fun r84 σ83 H locs h hP hS => ?_)
                    refine W.lcmp hx hb dL_law_366 ?_
                    refine lv_if_eq (tgt := 707) hx hb dL_law_367 (by decide) (fun c86 => ?_) (fun c86 => ?_)
                    · have h := h.1 c86
                      refine lv_iinc (v := (y3 + 6)) (lv' := [(3, .int (y3 + 6)), (0, .ref b), (1, .ref (ad (0, 0))), (2, .ref (ad (20, 0)))]) hx hb dL_law_707 hl (k := 3) rfl rfl (by decide) rfl (fun ls hl => ?_)
                      refine lv_goto (tgt := 18) hx hb dL_law_710 (by decide) ?_
                      exact ih σ83 (y3 + 6) _ _ _ h hP hS (lv_sub hl [1, 2, 3, 0] rfl)
                    · have h := h.2 c86
                      refine lv_iconst (v := 0) hx hb dL_law_370 (by decide) ?_
                      exact h.elim
                  · have h := h.2 c77
                    by_cases c87 : ((xs (ix y3)) &&& 31) = 7
                    · have h := h.1 c87
                      refine lv_tableIn (off := 339) (tgt := 372) hx hb dL_law_33 (by rw [c87]; decide) (by rw [c87]; decide) (by rw [c87]; decide +kernel) (by decide) ?_
                      refine lv_aload_n hx hb dL_law_372 rfl (lv_at hl 1 rfl) ?_
                      refine lv_aload_n hx hb dL_law_373 rfl (lv_at hl 0 rfl) ?_
                      refine lv_iload_n hx hb dL_law_374 rfl (lv_at hl 3 rfl) ?_
                      refine lv_iconst (v := 1) hx hb dL_law_375 (by decide) ?_
                      refine lv_iadd hx hb dL_law_376 ?_
                      have hin88 := h.1
                      have h := h.2
                      refine va_sld hx hb hX hbl hbA hS hin88 dL_law_377 ?_
                      refine lv_aload_n hx hb dL_law_378 rfl (lv_at hl 0 rfl) ?_
                      refine lv_iload_n hx hb dL_law_379 rfl (lv_at hl 3 rfl) ?_
                      refine lv_iconst (v := 2) hx hb dL_law_380 (by decide) ?_
                      refine lv_iadd hx hb dL_law_381 ?_
                      have hin89 := h.1
                      have h := h.2
                      refine va_sld hx hb hX hbl hbA hS hin89 dL_law_382 ?_
                      refine x_cVi (C := RX4) (As := [.int (xs (ix (y3 + 1))), .int (xs (ix (y3 + 2)))]) (rest := []) ⟨hx, hb, hml, hown, hts⟩ hK hP hS (c_X4_access l hAd hC σ (xs (ix (y3 + 1))) (xs (ix (y3 + 2))) _ h) (cwV 2 hts gL_law_X4_access rfl rfl rfl (by decide +kernel) ⟨Nat.le_of_ble_eq_true rfl, Nat.le_of_ble_eq_true rfl⟩) (x_recv hK hP (in1 hC (a := 0) (by decide) (by decide)) rfl rfl) rfl hl.1 rfl (Nat.le_of_ble_eq_true rfl) dL_law_383 ⟨Nat.le_refl _, Nat.le_refl _⟩ (fun r91 σ90 H locs h hP hS => ?_)
                      refine lv_aload_n hx hb dL_law_386 rfl (lv_at hl 2 rfl) ?_
                      refine lv_aload_n hx hb dL_law_387 rfl (lv_at hl 0 rfl) ?_
                      refine lv_iload_n hx hb dL_law_388 rfl (lv_at hl 3 rfl) ?_
                      refine lv_iconst (v := 1) hx hb dL_law_389 (by decide) ?_
                      refine lv_iadd hx hb dL_law_390 ?_
                      have hin93 := h.1
                      have h := h.2
                      refine va_sld hx hb hX hbl hbA hS hin93 dL_law_391 ?_
                      refine lv_aload_n hx hb dL_law_392 rfl (lv_at hl 0 rfl) ?_
                      refine lv_iload_n hx hb dL_law_393 rfl (lv_at hl 3 rfl) ?_
                      refine lv_iconst (v := 2) hx hb dL_law_394 (by decide) ?_
                      refine lv_iadd hx hb dL_law_395 ?_
                      have hin94 := h.1
                      have h := h.2
                      refine va_sld hx hb hX hbl hbA hS hin94 dL_law_396 ?_
                      refine x_cVi (C := RX5) (As := [.int (xs (ix (y3 + 1))), .int (xs (ix (y3 + 2)))]) (rest := [.int r91]) ⟨hx, hb, hml, hown, hts⟩ hK hP hS (c_X5_access l hAd hM σ90 (xs (ix (y3 + 1))) (xs (ix (y3 + 2))) _ h) (cwV 2 hts gL_law_X5_access rfl rfl rfl (by decide +kernel) ⟨Nat.le_of_ble_eq_true rfl, Nat.le_of_ble_eq_true rfl⟩) (x_recv hK hP (in1m hM (a := 20) (by decide) (by decide)) rfl rfl) rfl hl.1 rfl (Nat.le_of_ble_eq_true rfl) dL_law_397 ⟨Nat.le_refl _, Nat.le_refl _⟩ (fun r96 σ95 H locs h hP hS => ?_)
                      refine lv_icmp_eq (tgt := 707) hx hb dL_law_400 (by decide) (fun c98 => ?_) (fun c98 => ?_)
                      · have h := h.1 c98
                        refine lv_iinc (v := (y3 + 6)) (lv' := [(3, .int (y3 + 6)), (0, .ref b), (1, .ref (ad (0, 0))), (2, .ref (ad (20, 0)))]) hx hb dL_law_707 hl (k := 3) rfl rfl (by decide) rfl (fun ls hl => ?_)
                        refine lv_goto (tgt := 18) hx hb dL_law_710 (by decide) ?_
                        exact ih σ95 (y3 + 6) _ _ _ h hP hS (lv_sub hl [1, 2, 3, 0] rfl)
                      · have h := h.2 c98
                        refine lv_iconst (v := 0) hx hb dL_law_403 (by decide) ?_
                        exact h.elim
                    · have h := h.2 c87
                      by_cases c99 : ((xs (ix y3)) &&& 31) = 8
                      · have h := h.1 c99
                        refine lv_tableIn (off := 372) (tgt := 405) hx hb dL_law_33 (by rw [c99]; decide) (by rw [c99]; decide) (by rw [c99]; decide +kernel) (by decide) ?_
                        refine lv_aload_n hx hb dL_law_405 rfl (lv_at hl 1 rfl) ?_
                        refine lv_aload_n hx hb dL_law_406 rfl (lv_at hl 0 rfl) ?_
                        refine lv_iload_n hx hb dL_law_407 rfl (lv_at hl 3 rfl) ?_
                        refine lv_iconst (v := 1) hx hb dL_law_408 (by decide) ?_
                        refine lv_iadd hx hb dL_law_409 ?_
                        have hin100 := h.1
                        have h := h.2
                        refine va_sld hx hb hX hbl hbA hS hin100 dL_law_410 ?_
                        refine x_cVi (C := RX4) (As := [.int (xs (ix (y3 + 1)))]) (rest := []) ⟨hx, hb, hml, hown, hts⟩ hK hP hS (c_X4_owner l hAd hC σ (xs (ix (y3 + 1))) _ h) (cwV 1 hts gL_law_X4_owner rfl rfl rfl (by decide +kernel) ⟨Nat.le_of_ble_eq_true rfl, Nat.le_of_ble_eq_true rfl⟩) (x_recv hK hP (in1 hC (a := 0) (by decide) (by decide)) rfl rfl) rfl hl.1 rfl (Nat.le_of_ble_eq_true rfl) dL_law_411 ⟨Nat.le_refl _, Nat.le_refl _⟩ (fun r102 σ101 H locs h hP hS => ?_)
                        refine lv_aload_n hx hb dL_law_414 rfl (lv_at hl 2 rfl) ?_
                        refine lv_aload_n hx hb dL_law_415 rfl (lv_at hl 0 rfl) ?_
                        refine lv_iload_n hx hb dL_law_416 rfl (lv_at hl 3 rfl) ?_
                        refine lv_iconst (v := 1) hx hb dL_law_417 (by decide) ?_
                        refine lv_iadd hx hb dL_law_418 ?_
                        have hin104 := h.1
                        have h := h.2
                        refine va_sld hx hb hX hbl hbA hS hin104 dL_law_419 ?_
                        refine x_cVi (C := RX5) (As := [.int (xs (ix (y3 + 1)))]) (rest := [.int r102]) ⟨hx, hb, hml, hown, hts⟩ hK hP hS (c_X5_owner l hAd hM σ101 (xs (ix (y3 + 1))) _ h) (cwV 1 hts gL_law_X5_owner rfl rfl rfl (by decide +kernel) ⟨Nat.le_of_ble_eq_true rfl, Nat.le_of_ble_eq_true rfl⟩) (x_recv hK hP (in1m hM (a := 20) (by decide) (by decide)) rfl rfl) rfl hl.1 rfl (Nat.le_of_ble_eq_true rfl) dL_law_420 ⟨Nat.le_refl _, Nat.le_refl _⟩ (fun r106 σ105 H locs h hP hS => ?_)
                        refine lv_icmp_eq (tgt := 707) hx hb dL_law_423 (by decide) (fun c108 => ?_) (fun c108 => ?_)
                        · have h := h.1 c108
                          refine lv_iinc (v := (y3 + 6)) (lv' := [(3, .int (y3 + 6)), (0, .ref b), (1, .ref (ad (0, 0))), (2, .ref (ad (20, 0)))]) hx hb dL_law_707 hl (k := 3) rfl rfl (by decide) rfl (fun ls hl => ?_)
                          refine lv_goto (tgt := 18) hx hb dL_law_710 (by decide) ?_
                          exact ih σ105 (y3 + 6) _ _ _ h hP hS (lv_sub hl [1, 2, 3, 0] rfl)
                        · have h := h.2 c108
                          refine lv_iconst (v := 0) hx hb dL_law_426 (by decide) ?_
                          exact h.elim
                      · have h := h.2 c99
                        by_cases c109 : ((xs (ix y3)) &&& 31) = 9
                        · have h := h.1 c109
                          refine lv_tableIn (off := 395) (tgt := 428) hx hb dL_law_33 (by rw [c109]; decide) (by rw [c109]; decide) (by rw [c109]; decide +kernel) (by decide) ?_
                          refine lv_aload_n hx hb dL_law_428 rfl (lv_at hl 1 rfl) ?_
                          refine lv_aload_n hx hb dL_law_429 rfl (lv_at hl 0 rfl) ?_
                          refine lv_iload_n hx hb dL_law_430 rfl (lv_at hl 3 rfl) ?_
                          refine lv_iconst (v := 1) hx hb dL_law_431 (by decide) ?_
                          refine lv_iadd hx hb dL_law_432 ?_
                          have hin110 := h.1
                          have h := h.2
                          refine va_sld hx hb hX hbl hbA hS hin110 dL_law_433 ?_
                          refine lv_aload_n hx hb dL_law_434 rfl (lv_at hl 0 rfl) ?_
                          refine lv_iload_n hx hb dL_law_435 rfl (lv_at hl 3 rfl) ?_
                          refine lv_iconst (v := 2) hx hb dL_law_436 (by decide) ?_
                          refine lv_iadd hx hb dL_law_437 ?_
                          have hin111 := h.1
                          have h := h.2
                          refine va_sld hx hb hX hbl hbA hS hin111 dL_law_438 ?_
                          refine x_cVi (C := RX4) (As := [.int (xs (ix (y3 + 1))), .int (xs (ix (y3 + 2)))]) (rest := []) ⟨hx, hb, hml, hown, hts⟩ hK hP hS (c_X4_guess l hAd hC σ (xs (ix (y3 + 1))) (xs (ix (y3 + 2))) _ h) (cwV 2 hts gL_law_X4_guess rfl rfl rfl (by decide +kernel) ⟨Nat.le_of_ble_eq_true rfl, Nat.le_of_ble_eq_true rfl⟩) (x_recv hK hP (in1 hC (a := 0) (by decide) (by decide)) rfl rfl) rfl hl.1 rfl (Nat.le_of_ble_eq_true rfl) dL_law_439 ⟨Nat.le_refl _, Nat.le_refl _⟩ (fun r113 σ112 H locs h hP hS => ?_)
                          refine lv_aload_n hx hb dL_law_442 rfl (lv_at hl 2 rfl) ?_
                          refine lv_aload_n hx hb dL_law_443 rfl (lv_at hl 0 rfl) ?_
                          refine lv_iload_n hx hb dL_law_444 rfl (lv_at hl 3 rfl) ?_
                          refine lv_iconst (v := 1) hx hb dL_law_445 (by decide) ?_
                          refine lv_iadd hx hb dL_law_446 ?_
                          have hin115 := h.1
                          have h := h.2
                          refine va_sld hx hb hX hbl hbA hS hin115 dL_law_447 ?_
                          refine lv_aload_n hx hb dL_law_448 rfl (lv_at hl 0 rfl) ?_
                          refine lv_iload_n hx hb dL_law_449 rfl (lv_at hl 3 rfl) ?_
                          refine lv_iconst (v := 2) hx hb dL_law_450 (by decide) ?_
                          refine lv_iadd hx hb dL_law_451 ?_
                          have hin116 := h.1
                          have h := h.2
                          refine va_sld hx hb hX hbl hbA hS hin116 dL_law_452 ?_
                          refine x_cVi (C := RX5) (As := [.int (xs (ix (y3 + 1))), .int (xs (ix (y3 + 2)))]) (rest := [.int r113]) ⟨hx, hb, hml, hown, hts⟩ hK hP hS (c_X5_guess l hAd hM σ112 (xs (ix (y3 + 1))) (xs (ix (y3 + 2))) _ h) (cwV 2 hts gL_law_X5_guess rfl rfl rfl (by decide +kernel) ⟨Nat.le_of_ble_eq_true rfl, Nat.le_of_ble_eq_true rfl⟩) (x_recv hK hP (in1m hM (a := 20) (by decide) (by decide)) rfl rfl) rfl hl.1 rfl (Nat.le_of_ble_eq_true rfl) dL_law_453 ⟨Nat.le_refl _, Nat.le_refl _⟩ (fun r118 σ117 H locs h hP hS => ?_)
                          refine lv_icmp_eq (tgt := 707) hx hb dL_law_456 (by decide) (fun c120 => ?_) (fun c120 => ?_)
                          · have h := h.1 c120
                            refine lv_iinc (v := (y3 + 6)) (lv' := [(3, .int (y3 + 6)), (0, .ref b), (1, .ref (ad (0, 0))), (2, .ref (ad (20, 0)))]) hx hb dL_law_707 hl (k := 3) rfl rfl (by decide) rfl (fun ls hl => ?_)
                            refine lv_goto (tgt := 18) hx hb dL_law_710 (by decide) ?_
                            exact ih σ117 (y3 + 6) _ _ _ h hP hS (lv_sub hl [1, 2, 3, 0] rfl)
                          · have h := h.2 c120
                            refine lv_iconst (v := 0) hx hb dL_law_459 (by decide) ?_
                            exact h.elim
                        · have h := h.2 c109
                          by_cases c121 : ((xs (ix y3)) &&& 31) = 10
                          · have h := h.1 c121
                            refine lv_tableIn (off := 428) (tgt := 461) hx hb dL_law_33 (by rw [c121]; decide) (by rw [c121]; decide) (by rw [c121]; decide +kernel) (by decide) ?_
                            refine lv_aload_n hx hb dL_law_461 rfl (lv_at hl 1 rfl) ?_
                            refine lv_aload_n hx hb dL_law_462 rfl (lv_at hl 0 rfl) ?_
                            refine lv_iload_n hx hb dL_law_463 rfl (lv_at hl 3 rfl) ?_
                            refine lv_iconst (v := 1) hx hb dL_law_464 (by decide) ?_
                            refine lv_iadd hx hb dL_law_465 ?_
                            have hin122 := h.1
                            have h := h.2
                            refine va_sld hx hb hX hbl hbA hS hin122 dL_law_466 ?_
                            refine lv_aload_n hx hb dL_law_467 rfl (lv_at hl 0 rfl) ?_
                            refine lv_iload_n hx hb dL_law_468 rfl (lv_at hl 3 rfl) ?_
                            refine lv_iconst (v := 2) hx hb dL_law_469 (by decide) ?_
                            refine lv_iadd hx hb dL_law_470 ?_
                            have hin123 := h.1
                            have h := h.2
                            refine va_sld hx hb hX hbl hbA hS hin123 dL_law_471 ?_
                            refine x_cVi (C := RX4) (As := [.int (xs (ix (y3 + 1))), .int (xs (ix (y3 + 2)))]) (rest := []) ⟨hx, hb, hml, hown, hts⟩ hK hP hS (c_X4_copies l hAd hC σ (xs (ix (y3 + 1))) (xs (ix (y3 + 2))) _ h) (cwV 2 hts gL_law_X4_copies rfl rfl rfl (by decide +kernel) ⟨Nat.le_of_ble_eq_true rfl, Nat.le_of_ble_eq_true rfl⟩) (x_recv hK hP (in1 hC (a := 0) (by decide) (by decide)) rfl rfl) rfl hl.1 rfl (Nat.le_of_ble_eq_true rfl) dL_law_472 ⟨Nat.le_refl _, Nat.le_refl _⟩ (fun r125 σ124 H locs h hP hS => ?_)
                            refine lv_aload_n hx hb dL_law_475 rfl (lv_at hl 2 rfl) ?_
                            refine lv_aload_n hx hb dL_law_476 rfl (lv_at hl 0 rfl) ?_
                            refine lv_iload_n hx hb dL_law_477 rfl (lv_at hl 3 rfl) ?_
                            refine lv_iconst (v := 1) hx hb dL_law_478 (by decide) ?_
                            refine lv_iadd hx hb dL_law_479 ?_
                            have hin127 := h.1
                            have h := h.2
                            refine va_sld hx hb hX hbl hbA hS hin127 dL_law_480 ?_
                            refine lv_aload_n hx hb dL_law_481 rfl (lv_at hl 0 rfl) ?_
                            refine lv_iload_n hx hb dL_law_482 rfl (lv_at hl 3 rfl) ?_
                            refine lv_iconst (v := 2) hx hb dL_law_483 (by decide) ?_
                            refine lv_iadd hx hb dL_law_484 ?_
                            have hin128 := h.1
                            have h := h.2
                            refine va_sld hx hb hX hbl hbA hS hin128 dL_law_485 ?_
                            refine x_cVi (C := RX5) (As := [.int (xs (ix (y3 + 1))), .int (xs (ix (y3 + 2)))]) (rest := [.int r125]) ⟨hx, hb, hml, hown, hts⟩ hK hP hS (c_X5_copies l hAd hM σ124 (xs (ix (y3 + 1))) (xs (ix (y3 + 2))) _ h) (cwV 2 hts gL_law_X5_copies rfl rfl rfl (by decide +kernel) ⟨Nat.le_of_ble_eq_true rfl, Nat.le_of_ble_eq_true rfl⟩) (x_recv hK hP (in1m hM (a := 20) (by decide) (by decide)) rfl rfl) rfl hl.1 rfl (Nat.le_of_ble_eq_true rfl) dL_law_486 ⟨Nat.le_refl _, Nat.le_refl _⟩ (fun r130 σ129 H locs h hP hS => ?_)
                            refine lv_icmp_eq (tgt := 707) hx hb dL_law_489 (by decide) (fun c132 => ?_) (fun c132 => ?_)
                            · have h := h.1 c132
                              refine lv_iinc (v := (y3 + 6)) (lv' := [(3, .int (y3 + 6)), (0, .ref b), (1, .ref (ad (0, 0))), (2, .ref (ad (20, 0)))]) hx hb dL_law_707 hl (k := 3) rfl rfl (by decide) rfl (fun ls hl => ?_)
                              refine lv_goto (tgt := 18) hx hb dL_law_710 (by decide) ?_
                              exact ih σ129 (y3 + 6) _ _ _ h hP hS (lv_sub hl [1, 2, 3, 0] rfl)
                            · have h := h.2 c132
                              refine lv_iconst (v := 0) hx hb dL_law_492 (by decide) ?_
                              exact h.elim
                          · have h := h.2 c121
                            by_cases c133 : ((xs (ix y3)) &&& 31) = 11
                            · have h := h.1 c133
                              refine lv_tableIn (off := 461) (tgt := 494) hx hb dL_law_33 (by rw [c133]; decide) (by rw [c133]; decide) (by rw [c133]; decide +kernel) (by decide) ?_
                              refine lv_aload_n hx hb dL_law_494 rfl (lv_at hl 1 rfl) ?_
                              refine lv_aload_n hx hb dL_law_495 rfl (lv_at hl 0 rfl) ?_
                              refine lv_iload_n hx hb dL_law_496 rfl (lv_at hl 3 rfl) ?_
                              refine lv_iconst (v := 1) hx hb dL_law_497 (by decide) ?_
                              refine lv_iadd hx hb dL_law_498 ?_
                              have hin134 := h.1
                              have h := h.2
                              refine va_sld hx hb hX hbl hbA hS hin134 dL_law_499 ?_
                              refine lv_aload_n hx hb dL_law_500 rfl (lv_at hl 0 rfl) ?_
                              refine lv_iload_n hx hb dL_law_501 rfl (lv_at hl 3 rfl) ?_
                              refine lv_iconst (v := 2) hx hb dL_law_502 (by decide) ?_
                              refine lv_iadd hx hb dL_law_503 ?_
                              have hin135 := h.1
                              have h := h.2
                              refine va_sld hx hb hX hbl hbA hS hin135 dL_law_504 ?_
                              refine lv_aload_n hx hb dL_law_505 rfl (lv_at hl 0 rfl) ?_
                              refine lv_iload_n hx hb dL_law_506 rfl (lv_at hl 3 rfl) ?_
                              refine lv_iconst (v := 3) hx hb dL_law_507 (by decide) ?_
                              refine lv_iadd hx hb dL_law_508 ?_
                              have hin136 := h.1
                              have h := h.2
                              refine va_sld hx hb hX hbl hbA hS hin136 dL_law_509 ?_
                              refine x_cVl (C := RX4) (As := [.int (xs (ix (y3 + 1))), .int (xs (ix (y3 + 2))), .int (xs (ix (y3 + 3)))]) (rest := []) ⟨hx, hb, hml, hown, hts⟩ hK hP hS (c_X4_word l hAd hC σ (xs (ix (y3 + 1))) (xs (ix (y3 + 2))) (xs (ix (y3 + 3))) _ h) (cwV 3 hts gL_law_X4_word rfl rfl rfl (by decide +kernel) ⟨Nat.le_of_ble_eq_true rfl, Nat.le_of_ble_eq_true rfl⟩) (x_recv hK hP (in1 hC (a := 0) (by decide) (by decide)) rfl rfl) rfl hl.1 rfl (Nat.le_of_ble_eq_true rfl) dL_law_510 ⟨Nat.le_refl _, Nat.le_refl _⟩ (fun r138 σ137 H locs h hP hS => ?_)
                              refine lv_aload_n hx hb dL_law_513 rfl (lv_at hl 2 rfl) ?_
                              refine lv_aload_n hx hb dL_law_514 rfl (lv_at hl 0 rfl) ?_
                              refine lv_iload_n hx hb dL_law_515 rfl (lv_at hl 3 rfl) ?_
                              refine lv_iconst (v := 1) hx hb dL_law_516 (by decide) ?_
                              refine lv_iadd hx hb dL_law_517 ?_
                              have hin140 := h.1
                              have h := h.2
                              refine va_sld hx hb hX hbl hbA hS hin140 dL_law_518 ?_
                              refine lv_aload_n hx hb dL_law_519 rfl (lv_at hl 0 rfl) ?_
                              refine lv_iload_n hx hb dL_law_520 rfl (lv_at hl 3 rfl) ?_
                              refine lv_iconst (v := 2) hx hb dL_law_521 (by decide) ?_
                              refine lv_iadd hx hb dL_law_522 ?_
                              have hin141 := h.1
                              have h := h.2
                              refine va_sld hx hb hX hbl hbA hS hin141 dL_law_523 ?_
                              refine lv_aload_n hx hb dL_law_524 rfl (lv_at hl 0 rfl) ?_
                              refine lv_iload_n hx hb dL_law_525 rfl (lv_at hl 3 rfl) ?_
                              refine lv_iconst (v := 3) hx hb dL_law_526 (by decide) ?_
                              refine lv_iadd hx hb dL_law_527 ?_
                              have hin142 := h.1
                              have h := h.2
                              refine va_sld hx hb hX hbl hbA hS hin142 dL_law_528 ?_
                              refine x_cVl (C := RX5) (As := [.int (xs (ix (y3 + 1))), .int (xs (ix (y3 + 2))), .int (xs (ix (y3 + 3)))]) (rest := [.long r138]) ⟨hx, hb, hml, hown, hts⟩ hK hP hS (c_X5_word l hAd hM σ137 (xs (ix (y3 + 1))) (xs (ix (y3 + 2))) (xs (ix (y3 + 3))) _ h) (cwV 3 hts gL_law_X5_word rfl rfl rfl (by decide +kernel) ⟨Nat.le_of_ble_eq_true rfl, Nat.le_of_ble_eq_true rfl⟩) (x_recv hK hP (in1m hM (a := 20) (by decide) (by decide)) rfl rfl) rfl hl.1 rfl (Nat.le_of_ble_eq_true rfl) dL_law_529 ⟨Nat.le_refl _, Nat.le_refl _⟩ (fun r144 σ143 H locs h hP hS => ?_)
                              refine W.lcmp hx hb dL_law_532 ?_
                              refine lv_if_eq (tgt := 707) hx hb dL_law_533 (by decide) (fun c146 => ?_) (fun c146 => ?_)
                              · have h := h.1 c146
                                refine lv_iinc (v := (y3 + 6)) (lv' := [(3, .int (y3 + 6)), (0, .ref b), (1, .ref (ad (0, 0))), (2, .ref (ad (20, 0)))]) hx hb dL_law_707 hl (k := 3) rfl rfl (by decide) rfl (fun ls hl => ?_)
                                refine lv_goto (tgt := 18) hx hb dL_law_710 (by decide) ?_
                                exact ih σ143 (y3 + 6) _ _ _ h hP hS (lv_sub hl [1, 2, 3, 0] rfl)
                              · have h := h.2 c146
                                refine lv_iconst (v := 0) hx hb dL_law_536 (by decide) ?_
                                exact h.elim
                            · have h := h.2 c133
                              by_cases c147 : ((xs (ix y3)) &&& 31) = 12
                              · have h := h.1 c147
                                refine lv_tableIn (off := 505) (tgt := 538) hx hb dL_law_33 (by rw [c147]; decide) (by rw [c147]; decide) (by rw [c147]; decide +kernel) (by decide) ?_
                                refine lv_aload_n hx hb dL_law_538 rfl (lv_at hl 1 rfl) ?_
                                refine lv_aload_n hx hb dL_law_539 rfl (lv_at hl 0 rfl) ?_
                                refine lv_iload_n hx hb dL_law_540 rfl (lv_at hl 3 rfl) ?_
                                refine lv_iconst (v := 1) hx hb dL_law_541 (by decide) ?_
                                refine lv_iadd hx hb dL_law_542 ?_
                                have hin148 := h.1
                                have h := h.2
                                refine va_sld hx hb hX hbl hbA hS hin148 dL_law_543 ?_
                                refine lv_aload_n hx hb dL_law_544 rfl (lv_at hl 0 rfl) ?_
                                refine lv_iload_n hx hb dL_law_545 rfl (lv_at hl 3 rfl) ?_
                                refine lv_iconst (v := 2) hx hb dL_law_546 (by decide) ?_
                                refine lv_iadd hx hb dL_law_547 ?_
                                have hin149 := h.1
                                have h := h.2
                                refine va_sld hx hb hX hbl hbA hS hin149 dL_law_548 ?_
                                refine x_cVi (C := RX4) (As := [.int (xs (ix (y3 + 1))), .int (xs (ix (y3 + 2)))]) (rest := []) ⟨hx, hb, hml, hown, hts⟩ hK hP hS (c_X4_queue l hAd hC σ (xs (ix (y3 + 1))) (xs (ix (y3 + 2))) _ h) (cwV 2 hts gL_law_X4_queue rfl rfl rfl (by decide +kernel) ⟨Nat.le_of_ble_eq_true rfl, Nat.le_of_ble_eq_true rfl⟩) (x_recv hK hP (in1 hC (a := 0) (by decide) (by decide)) rfl rfl) rfl hl.1 rfl (Nat.le_of_ble_eq_true rfl) dL_law_549 ⟨Nat.le_refl _, Nat.le_refl _⟩ (fun r151 σ150 H locs h hP hS => ?_)
                                refine lv_aload_n hx hb dL_law_552 rfl (lv_at hl 2 rfl) ?_
                                refine lv_aload_n hx hb dL_law_553 rfl (lv_at hl 0 rfl) ?_
                                refine lv_iload_n hx hb dL_law_554 rfl (lv_at hl 3 rfl) ?_
                                refine lv_iconst (v := 1) hx hb dL_law_555 (by decide) ?_
                                refine lv_iadd hx hb dL_law_556 ?_
                                have hin153 := h.1
                                have h := h.2
                                refine va_sld hx hb hX hbl hbA hS hin153 dL_law_557 ?_
                                refine lv_aload_n hx hb dL_law_558 rfl (lv_at hl 0 rfl) ?_
                                refine lv_iload_n hx hb dL_law_559 rfl (lv_at hl 3 rfl) ?_
                                refine lv_iconst (v := 2) hx hb dL_law_560 (by decide) ?_
                                refine lv_iadd hx hb dL_law_561 ?_
                                have hin154 := h.1
                                have h := h.2
                                refine va_sld hx hb hX hbl hbA hS hin154 dL_law_562 ?_
                                refine x_cVi (C := RX5) (As := [.int (xs (ix (y3 + 1))), .int (xs (ix (y3 + 2)))]) (rest := [.int r151]) ⟨hx, hb, hml, hown, hts⟩ hK hP hS (c_X5_queue l hAd hM σ150 (xs (ix (y3 + 1))) (xs (ix (y3 + 2))) _ h) (cwV 2 hts gL_law_X5_queue rfl rfl rfl (by decide +kernel) ⟨Nat.le_of_ble_eq_true rfl, Nat.le_of_ble_eq_true rfl⟩) (x_recv hK hP (in1m hM (a := 20) (by decide) (by decide)) rfl rfl) rfl hl.1 rfl (Nat.le_of_ble_eq_true rfl) dL_law_563 ⟨Nat.le_refl _, Nat.le_refl _⟩ (fun r156 σ155 H locs h hP hS => ?_)
                                refine lv_icmp_eq (tgt := 707) hx hb dL_law_566 (by decide) (fun c158 => ?_) (fun c158 => ?_)
                                · have h := h.1 c158
                                  refine lv_iinc (v := (y3 + 6)) (lv' := [(3, .int (y3 + 6)), (0, .ref b), (1, .ref (ad (0, 0))), (2, .ref (ad (20, 0)))]) hx hb dL_law_707 hl (k := 3) rfl rfl (by decide) rfl (fun ls hl => ?_)
                                  refine lv_goto (tgt := 18) hx hb dL_law_710 (by decide) ?_
                                  exact ih σ155 (y3 + 6) _ _ _ h hP hS (lv_sub hl [1, 2, 3, 0] rfl)
                                · have h := h.2 c158
                                  refine lv_iconst (v := 0) hx hb dL_law_569 (by decide) ?_
                                  exact h.elim
                              · have h := h.2 c147
                                by_cases c159 : ((xs (ix y3)) &&& 31) = 13
                                · have h := h.1 c159
                                  refine lv_tableIn (off := 538) (tgt := 571) hx hb dL_law_33 (by rw [c159]; decide) (by rw [c159]; decide) (by rw [c159]; decide +kernel) (by decide) ?_
                                  refine lv_aload_n hx hb dL_law_571 rfl (lv_at hl 1 rfl) ?_
                                  refine lv_aload_n hx hb dL_law_572 rfl (lv_at hl 0 rfl) ?_
                                  refine lv_iload_n hx hb dL_law_573 rfl (lv_at hl 3 rfl) ?_
                                  refine lv_iconst (v := 1) hx hb dL_law_574 (by decide) ?_
                                  refine lv_iadd hx hb dL_law_575 ?_
                                  have hin160 := h.1
                                  have h := h.2
                                  refine va_sld hx hb hX hbl hbA hS hin160 dL_law_576 ?_
                                  refine lv_aload_n hx hb dL_law_577 rfl (lv_at hl 0 rfl) ?_
                                  refine lv_iload_n hx hb dL_law_578 rfl (lv_at hl 3 rfl) ?_
                                  refine lv_iconst (v := 2) hx hb dL_law_579 (by decide) ?_
                                  refine lv_iadd hx hb dL_law_580 ?_
                                  have hin161 := h.1
                                  have h := h.2
                                  refine va_sld hx hb hX hbl hbA hS hin161 dL_law_581 ?_
                                  refine x_cVi (C := RX4) (As := [.int (xs (ix (y3 + 1))), .int (xs (ix (y3 + 2)))]) (rest := []) ⟨hx, hb, hml, hown, hts⟩ hK hP hS (c_X4_chain l hAd hC σ (xs (ix (y3 + 1))) (xs (ix (y3 + 2))) _ h) (cwV 2 hts gL_law_X4_chain rfl rfl rfl (by decide +kernel) ⟨Nat.le_of_ble_eq_true rfl, Nat.le_of_ble_eq_true rfl⟩) (x_recv hK hP (in1 hC (a := 0) (by decide) (by decide)) rfl rfl) rfl hl.1 rfl (Nat.le_of_ble_eq_true rfl) dL_law_582 ⟨Nat.le_refl _, Nat.le_refl _⟩ (fun r163 σ162 H locs h hP hS => ?_)
                                  refine lv_aload_n hx hb dL_law_585 rfl (lv_at hl 2 rfl) ?_
                                  refine lv_aload_n hx hb dL_law_586 rfl (lv_at hl 0 rfl) ?_
                                  refine lv_iload_n hx hb dL_law_587 rfl (lv_at hl 3 rfl) ?_
                                  refine lv_iconst (v := 1) hx hb dL_law_588 (by decide) ?_
                                  refine lv_iadd hx hb dL_law_589 ?_
                                  have hin165 := h.1
                                  have h := h.2
                                  refine va_sld hx hb hX hbl hbA hS hin165 dL_law_590 ?_
                                  refine lv_aload_n hx hb dL_law_591 rfl (lv_at hl 0 rfl) ?_
                                  refine lv_iload_n hx hb dL_law_592 rfl (lv_at hl 3 rfl) ?_
                                  refine lv_iconst (v := 2) hx hb dL_law_593 (by decide) ?_
                                  refine lv_iadd hx hb dL_law_594 ?_
                                  have hin166 := h.1
                                  have h := h.2
                                  refine va_sld hx hb hX hbl hbA hS hin166 dL_law_595 ?_
                                  refine x_cVi (C := RX5) (As := [.int (xs (ix (y3 + 1))), .int (xs (ix (y3 + 2)))]) (rest := [.int r163]) ⟨hx, hb, hml, hown, hts⟩ hK hP hS (c_X5_chain l hAd hM σ162 (xs (ix (y3 + 1))) (xs (ix (y3 + 2))) _ h) (cwV 2 hts gL_law_X5_chain rfl rfl rfl (by decide +kernel) ⟨Nat.le_of_ble_eq_true rfl, Nat.le_of_ble_eq_true rfl⟩) (x_recv hK hP (in1m hM (a := 20) (by decide) (by decide)) rfl rfl) rfl hl.1 rfl (Nat.le_of_ble_eq_true rfl) dL_law_596 ⟨Nat.le_refl _, Nat.le_refl _⟩ (fun r168 σ167 H locs h hP hS => ?_)
                                  refine lv_icmp_eq (tgt := 707) hx hb dL_law_599 (by decide) (fun c170 => ?_) (fun c170 => ?_)
                                  · have h := h.1 c170
                                    refine lv_iinc (v := (y3 + 6)) (lv' := [(3, .int (y3 + 6)), (0, .ref b), (1, .ref (ad (0, 0))), (2, .ref (ad (20, 0)))]) hx hb dL_law_707 hl (k := 3) rfl rfl (by decide) rfl (fun ls hl => ?_)
                                    refine lv_goto (tgt := 18) hx hb dL_law_710 (by decide) ?_
                                    exact ih σ167 (y3 + 6) _ _ _ h hP hS (lv_sub hl [1, 2, 3, 0] rfl)
                                  · have h := h.2 c170
                                    refine lv_iconst (v := 0) hx hb dL_law_602 (by decide) ?_
                                    exact h.elim
                                · have h := h.2 c159
                                  by_cases c171 : ((xs (ix y3)) &&& 31) = 14
                                  · have h := h.1 c171
                                    refine lv_tableIn (off := 571) (tgt := 604) hx hb dL_law_33 (by rw [c171]; decide) (by rw [c171]; decide) (by rw [c171]; decide +kernel) (by decide) ?_
                                    refine lv_aload_n hx hb dL_law_604 rfl (lv_at hl 1 rfl) ?_
                                    refine x_cVi (C := RX4) (As := []) (rest := []) ⟨hx, hb, hml, hown, hts⟩ hK hP hS (c_X4_flying l hAd hC σ _ h) (cwV 0 hts gL_law_X4_flying rfl rfl rfl (by decide +kernel) ⟨Nat.le_of_ble_eq_true rfl, Nat.le_of_ble_eq_true rfl⟩) (x_recv hK hP (in1 hC (a := 0) (by decide) (by decide)) rfl rfl) rfl hl.1 rfl (Nat.le_of_ble_eq_true rfl) dL_law_605 ⟨Nat.le_refl _, Nat.le_refl _⟩ (fun r173 σ172 H locs h hP hS => ?_)
                                    refine lv_aload_n hx hb dL_law_608 rfl (lv_at hl 2 rfl) ?_
                                    refine x_cVi (C := RX5) (As := []) (rest := [.int r173]) ⟨hx, hb, hml, hown, hts⟩ hK hP hS (c_X5_flying l hAd hM σ172 _ h) (cwV 0 hts gL_law_X5_flying rfl rfl rfl (by decide +kernel) ⟨Nat.le_of_ble_eq_true rfl, Nat.le_of_ble_eq_true rfl⟩) (x_recv hK hP (in1m hM (a := 20) (by decide) (by decide)) rfl rfl) rfl hl.1 rfl (Nat.le_of_ble_eq_true rfl) dL_law_609 ⟨Nat.le_refl _, Nat.le_refl _⟩ (fun r176 σ175 H locs h hP hS => ?_)
                                    refine lv_icmp_eq (tgt := 707) hx hb dL_law_612 (by decide) (fun c178 => ?_) (fun c178 => ?_)
                                    · have h := h.1 c178
                                      refine lv_iinc (v := (y3 + 6)) (lv' := [(3, .int (y3 + 6)), (0, .ref b), (1, .ref (ad (0, 0))), (2, .ref (ad (20, 0)))]) hx hb dL_law_707 hl (k := 3) rfl rfl (by decide) rfl (fun ls hl => ?_)
                                      refine lv_goto (tgt := 18) hx hb dL_law_710 (by decide) ?_
                                      exact ih σ175 (y3 + 6) _ _ _ h hP hS (lv_sub hl [1, 2, 3, 0] rfl)
                                    · have h := h.2 c178
                                      refine lv_iconst (v := 0) hx hb dL_law_615 (by decide) ?_
                                      exact h.elim
                                  · have h := h.2 c171
                                    by_cases c179 : ((xs (ix y3)) &&& 31) = 15
                                    · have h := h.1 c179
                                      refine lv_tableIn (off := 584) (tgt := 617) hx hb dL_law_33 (by rw [c179]; decide) (by rw [c179]; decide) (by rw [c179]; decide +kernel) (by decide) ?_
                                      refine lv_aload_n hx hb dL_law_617 rfl (lv_at hl 1 rfl) ?_
                                      refine lv_aload_n hx hb dL_law_618 rfl (lv_at hl 0 rfl) ?_
                                      refine lv_iload_n hx hb dL_law_619 rfl (lv_at hl 3 rfl) ?_
                                      refine lv_iconst (v := 1) hx hb dL_law_620 (by decide) ?_
                                      refine lv_iadd hx hb dL_law_621 ?_
                                      have hin180 := h.1
                                      have h := h.2
                                      refine va_sld hx hb hX hbl hbA hS hin180 dL_law_622 ?_
                                      refine lv_aload_n hx hb dL_law_623 rfl (lv_at hl 0 rfl) ?_
                                      refine lv_iload_n hx hb dL_law_624 rfl (lv_at hl 3 rfl) ?_
                                      refine lv_iconst (v := 2) hx hb dL_law_625 (by decide) ?_
                                      refine lv_iadd hx hb dL_law_626 ?_
                                      have hin181 := h.1
                                      have h := h.2
                                      refine va_sld hx hb hX hbl hbA hS hin181 dL_law_627 ?_
                                      refine x_cVi (C := RX4) (As := [.int (xs (ix (y3 + 1))), .int (xs (ix (y3 + 2)))]) (rest := []) ⟨hx, hb, hml, hown, hts⟩ hK hP hS (c_X4_letter l hAd hC σ (xs (ix (y3 + 1))) (xs (ix (y3 + 2))) _ h) (cwV 2 hts gL_law_X4_letter rfl rfl rfl (by decide +kernel) ⟨Nat.le_of_ble_eq_true rfl, Nat.le_of_ble_eq_true rfl⟩) (x_recv hK hP (in1 hC (a := 0) (by decide) (by decide)) rfl rfl) rfl hl.1 rfl (Nat.le_of_ble_eq_true rfl) dL_law_628 ⟨Nat.le_refl _, Nat.le_refl _⟩ (fun r183 σ182 H locs h hP hS => ?_)
                                      refine lv_aload_n hx hb dL_law_631 rfl (lv_at hl 2 rfl) ?_
                                      refine lv_aload_n hx hb dL_law_632 rfl (lv_at hl 0 rfl) ?_
                                      refine lv_iload_n hx hb dL_law_633 rfl (lv_at hl 3 rfl) ?_
                                      refine lv_iconst (v := 1) hx hb dL_law_634 (by decide) ?_
                                      refine lv_iadd hx hb dL_law_635 ?_
                                      have hin185 := h.1
                                      have h := h.2
                                      refine va_sld hx hb hX hbl hbA hS hin185 dL_law_636 ?_
                                      refine lv_aload_n hx hb dL_law_637 rfl (lv_at hl 0 rfl) ?_
                                      refine lv_iload_n hx hb dL_law_638 rfl (lv_at hl 3 rfl) ?_
                                      refine lv_iconst (v := 2) hx hb dL_law_639 (by decide) ?_
                                      refine lv_iadd hx hb dL_law_640 ?_
                                      have hin186 := h.1
                                      have h := h.2
                                      refine va_sld hx hb hX hbl hbA hS hin186 dL_law_641 ?_
                                      refine x_cVi (C := RX5) (As := [.int (xs (ix (y3 + 1))), .int (xs (ix (y3 + 2)))]) (rest := [.int r183]) ⟨hx, hb, hml, hown, hts⟩ hK hP hS (c_X5_letter l hAd hM σ182 (xs (ix (y3 + 1))) (xs (ix (y3 + 2))) _ h) (cwV 2 hts gL_law_X5_letter rfl rfl rfl (by decide +kernel) ⟨Nat.le_of_ble_eq_true rfl, Nat.le_of_ble_eq_true rfl⟩) (x_recv hK hP (in1m hM (a := 20) (by decide) (by decide)) rfl rfl) rfl hl.1 rfl (Nat.le_of_ble_eq_true rfl) dL_law_642 ⟨Nat.le_refl _, Nat.le_refl _⟩ (fun r188 σ187 H locs h hP hS => ?_)
                                      refine lv_icmp_eq (tgt := 707) hx hb dL_law_645 (by decide) (fun c190 => ?_) (fun c190 => ?_)
                                      · have h := h.1 c190
                                        refine lv_iinc (v := (y3 + 6)) (lv' := [(3, .int (y3 + 6)), (0, .ref b), (1, .ref (ad (0, 0))), (2, .ref (ad (20, 0)))]) hx hb dL_law_707 hl (k := 3) rfl rfl (by decide) rfl (fun ls hl => ?_)
                                        refine lv_goto (tgt := 18) hx hb dL_law_710 (by decide) ?_
                                        exact ih σ187 (y3 + 6) _ _ _ h hP hS (lv_sub hl [1, 2, 3, 0] rfl)
                                      · have h := h.2 c190
                                        refine lv_iconst (v := 0) hx hb dL_law_648 (by decide) ?_
                                        exact h.elim
                                    · have h := h.2 c179
                                      by_cases c191 : ((xs (ix y3)) &&& 31) = 16
                                      · have h := h.1 c191
                                        refine lv_tableIn (off := 617) (tgt := 650) hx hb dL_law_33 (by rw [c191]; decide) (by rw [c191]; decide) (by rw [c191]; decide +kernel) (by decide) ?_
                                        refine lv_aload_n hx hb dL_law_650 rfl (lv_at hl 1 rfl) ?_
                                        refine lv_aload_n hx hb dL_law_651 rfl (lv_at hl 0 rfl) ?_
                                        refine lv_iload_n hx hb dL_law_652 rfl (lv_at hl 3 rfl) ?_
                                        refine lv_iconst (v := 1) hx hb dL_law_653 (by decide) ?_
                                        refine lv_iadd hx hb dL_law_654 ?_
                                        have hin192 := h.1
                                        have h := h.2
                                        refine va_sld hx hb hX hbl hbA hS hin192 dL_law_655 ?_
                                        refine lv_aload_n hx hb dL_law_656 rfl (lv_at hl 0 rfl) ?_
                                        refine lv_iload_n hx hb dL_law_657 rfl (lv_at hl 3 rfl) ?_
                                        refine lv_iconst (v := 2) hx hb dL_law_658 (by decide) ?_
                                        refine lv_iadd hx hb dL_law_659 ?_
                                        have hin193 := h.1
                                        have h := h.2
                                        refine va_sld hx hb hX hbl hbA hS hin193 dL_law_660 ?_
                                        refine x_cVl (C := RX4) (As := [.int (xs (ix (y3 + 1))), .int (xs (ix (y3 + 2)))]) (rest := []) ⟨hx, hb, hml, hown, hts⟩ hK hP hS (c_X4_letterWord l hAd hC σ (xs (ix (y3 + 1))) (xs (ix (y3 + 2))) _ h) (cwV 2 hts gL_law_X4_letterWord rfl rfl rfl (by decide +kernel) ⟨Nat.le_of_ble_eq_true rfl, Nat.le_of_ble_eq_true rfl⟩) (x_recv hK hP (in1 hC (a := 0) (by decide) (by decide)) rfl rfl) rfl hl.1 rfl (Nat.le_of_ble_eq_true rfl) dL_law_661 ⟨Nat.le_refl _, Nat.le_refl _⟩ (fun r195 σ194 H locs h hP hS => ?_)
                                        refine lv_aload_n hx hb dL_law_664 rfl (lv_at hl 2 rfl) ?_
                                        refine lv_aload_n hx hb dL_law_665 rfl (lv_at hl 0 rfl) ?_
                                        refine lv_iload_n hx hb dL_law_666 rfl (lv_at hl 3 rfl) ?_
                                        refine lv_iconst (v := 1) hx hb dL_law_667 (by decide) ?_
                                        refine lv_iadd hx hb dL_law_668 ?_
                                        have hin197 := h.1
                                        have h := h.2
                                        refine va_sld hx hb hX hbl hbA hS hin197 dL_law_669 ?_
                                        refine lv_aload_n hx hb dL_law_670 rfl (lv_at hl 0 rfl) ?_
                                        refine lv_iload_n hx hb dL_law_671 rfl (lv_at hl 3 rfl) ?_
                                        refine lv_iconst (v := 2) hx hb dL_law_672 (by decide) ?_
                                        refine lv_iadd hx hb dL_law_673 ?_
                                        have hin198 := h.1
                                        have h := h.2
                                        refine va_sld hx hb hX hbl hbA hS hin198 dL_law_674 ?_
                                        refine x_cVl (C := RX5) (As := [.int (xs (ix (y3 + 1))), .int (xs (ix (y3 + 2)))]) (rest := [.long r195]) ⟨hx, hb, hml, hown, hts⟩ hK hP hS (c_X5_letterWord l hAd hM σ194 (xs (ix (y3 + 1))) (xs (ix (y3 + 2))) _ h) (cwV 2 hts gL_law_X5_letterWord rfl rfl rfl (by decide +kernel) ⟨Nat.le_of_ble_eq_true rfl, Nat.le_of_ble_eq_true rfl⟩) (x_recv hK hP (in1m hM (a := 20) (by decide) (by decide)) rfl rfl) rfl hl.1 rfl (Nat.le_of_ble_eq_true rfl) dL_law_675 ⟨Nat.le_refl _, Nat.le_refl _⟩ (fun r200 σ199 H locs h hP hS => ?_)
                                        refine W.lcmp hx hb dL_law_678 ?_
                                        refine lv_if_eq (tgt := 707) hx hb dL_law_679 (by decide) (fun c202 => ?_) (fun c202 => ?_)
                                        · have h := h.1 c202
                                          refine lv_iinc (v := (y3 + 6)) (lv' := [(3, .int (y3 + 6)), (0, .ref b), (1, .ref (ad (0, 0))), (2, .ref (ad (20, 0)))]) hx hb dL_law_707 hl (k := 3) rfl rfl (by decide) rfl (fun ls hl => ?_)
                                          refine lv_goto (tgt := 18) hx hb dL_law_710 (by decide) ?_
                                          exact ih σ199 (y3 + 6) _ _ _ h hP hS (lv_sub hl [1, 2, 3, 0] rfl)
                                        · have h := h.2 c202
                                          refine lv_iconst (v := 0) hx hb dL_law_682 (by decide) ?_
                                          exact h.elim
                                      · have h := h.2 c191
                                        by_cases c203 : ((xs (ix y3)) &&& 31) = 17
                                        · have h := h.1 c203
                                          refine lv_tableIn (off := 651) (tgt := 684) hx hb dL_law_33 (by rw [c203]; decide) (by rw [c203]; decide) (by rw [c203]; decide +kernel) (by decide) ?_
                                          refine lv_aload_n hx hb dL_law_684 rfl (lv_at hl 1 rfl) ?_
                                          refine lv_aload_n hx hb dL_law_685 rfl (lv_at hl 0 rfl) ?_
                                          refine lv_iload_n hx hb dL_law_686 rfl (lv_at hl 3 rfl) ?_
                                          refine lv_iconst (v := 1) hx hb dL_law_687 (by decide) ?_
                                          refine lv_iadd hx hb dL_law_688 ?_
                                          have hin204 := h.1
                                          have h := h.2
                                          refine va_sld hx hb hX hbl hbA hS hin204 dL_law_689 ?_
                                          refine x_cVi (C := RX4) (As := [.int (xs (ix (y3 + 1)))]) (rest := []) ⟨hx, hb, hml, hown, hts⟩ hK hP hS (c_X4_count l hAd hC σ (xs (ix (y3 + 1))) _ h) (cwV 1 hts gL_law_X4_count rfl rfl rfl (by decide +kernel) ⟨Nat.le_of_ble_eq_true rfl, Nat.le_of_ble_eq_true rfl⟩) (x_recv hK hP (in1 hC (a := 0) (by decide) (by decide)) rfl rfl) rfl hl.1 rfl (Nat.le_of_ble_eq_true rfl) dL_law_690 ⟨Nat.le_refl _, Nat.le_refl _⟩ (fun r206 σ205 H locs h hP hS => ?_)
                                          refine lv_aload_n hx hb dL_law_693 rfl (lv_at hl 2 rfl) ?_
                                          refine lv_aload_n hx hb dL_law_694 rfl (lv_at hl 0 rfl) ?_
                                          refine lv_iload_n hx hb dL_law_695 rfl (lv_at hl 3 rfl) ?_
                                          refine lv_iconst (v := 1) hx hb dL_law_696 (by decide) ?_
                                          refine lv_iadd hx hb dL_law_697 ?_
                                          have hin208 := h.1
                                          have h := h.2
                                          refine va_sld hx hb hX hbl hbA hS hin208 dL_law_698 ?_
                                          refine x_cVi (C := RX5) (As := [.int (xs (ix (y3 + 1)))]) (rest := [.int r206]) ⟨hx, hb, hml, hown, hts⟩ hK hP hS (c_X5_count l hAd hM σ205 (xs (ix (y3 + 1))) _ h) (cwV 1 hts gL_law_X5_count rfl rfl rfl (by decide +kernel) ⟨Nat.le_of_ble_eq_true rfl, Nat.le_of_ble_eq_true rfl⟩) (x_recv hK hP (in1m hM (a := 20) (by decide) (by decide)) rfl rfl) rfl hl.1 rfl (Nat.le_of_ble_eq_true rfl) dL_law_699 ⟨Nat.le_refl _, Nat.le_refl _⟩ (fun r210 σ209 H locs h hP hS => ?_)
                                          refine lv_icmp_eq (tgt := 707) hx hb dL_law_702 (by decide) (fun c212 => ?_) (fun c212 => ?_)
                                          · have h := h.1 c212
                                            refine lv_iinc (v := (y3 + 6)) (lv' := [(3, .int (y3 + 6)), (0, .ref b), (1, .ref (ad (0, 0))), (2, .ref (ad (20, 0)))]) hx hb dL_law_707 hl (k := 3) rfl rfl (by decide) rfl (fun ls hl => ?_)
                                            refine lv_goto (tgt := 18) hx hb dL_law_710 (by decide) ?_
                                            exact ih σ209 (y3 + 6) _ _ _ h hP hS (lv_sub hl [1, 2, 3, 0] rfl)
                                          · have h := h.2 c212
                                            refine lv_iconst (v := 0) hx hb dL_law_705 (by decide) ?_
                                            exact h.elim
                                        · have h := h.2 c203
                                          have n213 : ((xs (ix y3)) &&& 31).toInt < 0 ∨ 17 < ((xs (ix y3)) &&& 31).toInt := by
                                            have := lv_neT (k := 0) (a := 0) c3 rfl
                                            have := lv_neT (k := 1) (a := 1) c13 rfl
                                            have := lv_neT (k := 2) (a := 2) c27 rfl
                                            have := lv_neT (k := 3) (a := 3) c45 rfl
                                            have := lv_neT (k := 4) (a := 4) c55 rfl
                                            have := lv_neT (k := 5) (a := 5) c65 rfl
                                            have := lv_neT (k := 6) (a := 6) c77 rfl
                                            have := lv_neT (k := 7) (a := 7) c87 rfl
                                            have := lv_neT (k := 8) (a := 8) c99 rfl
                                            have := lv_neT (k := 9) (a := 9) c109 rfl
                                            have := lv_neT (k := 10) (a := 10) c121 rfl
                                            have := lv_neT (k := 11) (a := 11) c133 rfl
                                            have := lv_neT (k := 12) (a := 12) c147 rfl
                                            have := lv_neT (k := 13) (a := 13) c159 rfl
                                            have := lv_neT (k := 14) (a := 14) c171 rfl
                                            have := lv_neT (k := 15) (a := 15) c179 rfl
                                            have := lv_neT (k := 16) (a := 16) c191 rfl
                                            have := lv_neT (k := 17) (a := 17) c203 rfl
                                            omega
                                          refine lv_tableOut (tgt := 707) hx hb dL_law_33 n213 (by decide) ?_
                                          refine lv_iinc (v := (y3 + 6)) (lv' := [(3, .int (y3 + 6)), (0, .ref b), (1, .ref (ad (0, 0))), (2, .ref (ad (20, 0)))]) hx hb dL_law_707 hl (k := 3) rfl rfl (by decide) rfl (fun ls hl => ?_)
                                          refine lv_goto (tgt := 18) hx hb dL_law_710 (by decide) ?_
                                          exact ih σ (y3 + 6) _ _ _ h hP hS (lv_sub hl [1, 2, 3, 0] rfl)
