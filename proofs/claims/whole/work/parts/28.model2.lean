/-! PURE: askings, queues and letters of the reference -/
theorem sI_self {σ : Sg} {a k f : Nat} : sI σ a k f (σ.1 a k f) = σ := by
  refine sg_ext (fun x y z => ?_) (fun _ _ _ => rfl) rfl
  simp only [sI]
  by_cases e : x = a ∧ y = k ∧ z = f
  · rw [if_pos e, e.1, e.2.1, e.2.2]
  · rw [if_neg e]
theorem RM.weak {bm : Bool} {κ τ σ : Sg} {ls : List Lt} {qs : Qu} (h : RM bm κ τ ls qs σ) : RM false κ τ ls qs σ := ⟨h.1.weak, h.2⟩
theorem RM.self {bm : Bool} {κ τ σ : Sg} {ls : List Lt} {qs : Qu} (h : RM bm κ τ ls qs σ) (b : Bool) : RM b σ τ ls qs σ := ⟨⟨fun _ _ => ⟨rfl, rfl⟩, rfl⟩, h.2⟩
theorem RM.re {b bm : Bool} {κ ν τ τ0 σ : Sg} {ls ls0 : List Lt} {qs qs0 : Qu} (h : RM b ν τ ls qs σ) (h0 : RM bm κ τ0 ls0 qs0 ν) : RM false κ τ ls qs σ := ⟨h0.1.weak.trans h.1.weak, h.2⟩
/-- an asking behind a queue -/
theorem RM.qu {bm : Bool} {κ τ σ : Sg} {ls : List Lt} {qs : Qu} (h : RM bm κ τ ls qs σ) {k p kd a : Nat} (hk : k < 6) (hp : p < 8) (hl : (qs k p).length ≤ 8) : RM bm κ τ ls (uQ qs k p (qs k p ++ [(kd, a)])) (sI (sI (sI σ 26 0 (20 * (8 * k + p) + 2 * (qs k p).length) (nI kd)) 26 0 (20 * (8 * k + p) + 2 * (qs k p).length + 1) (nI a)) 27 0 (8 * k + p) (nI (qs k p).length + 1)) := by
  have hkk : ∀ b, b ≠ 26 → b ≠ 27 → (sI (sI (sI σ 26 0 (20 * (8 * k + p) + 2 * (qs k p).length) (nI kd)) 26 0 (20 * (8 * k + p) + 2 * (qs k p).length + 1) (nI a)) 27 0 (8 * k + p) (nI (qs k p).length + 1)).1 b = σ.1 b := fun b h1 h2 => by rw [sI_k h2, sI_k h1, sI_k h1]
  refine ⟨((h.1.i (by decide) _ _ _).i (by decide) _ _ _).i (by decide) _ _ _, h.2.1.o (hkk _ (by decide) (by decide)) (hkk _ (by decide) (by decide)) (hkk _ (by decide) (by decide)) (hkk _ (by decide) (by decide)) rfl rfl rfl rfl, h.2.2.1.o rfl rfl, h.2.2.2.1.o (hkk _ (by decide) (by decide)) (hkk _ (by decide) (by decide)) (hkk _ (by decide) (by decide)) (hkk _ (by decide) (by decide)) (hkk _ (by decide) (by decide)) (hkk _ (by decide) (by decide)) (hkk _ (by decide) (by decide)) (hkk _ (by decide) (by decide)) rfl rfl rfl rfl, h.2.2.2.2.1.o (by rw [hkk _ (by decide) (by decide)]) (hkk _ (by decide) (by decide)) rfl rfl, h.2.2.2.2.2.1.o (by rw [hkk _ (by decide) (by decide)]) (hkk _ (by decide) (by decide)) rfl, ?_⟩
  intro k' p' hk' hp'
  obtain ⟨r1, r2, r3⟩ := h.2.2.2.2.2.2 k' p' hk' hp'
  by_cases e : k' = k ∧ p' = p
  · obtain ⟨rfl, rfl⟩ := e
    simp only [uQ, and_self, if_true]
    refine ⟨by simp; omega, by simp [sI, nI_p1], fun i e hi => ?_⟩
    by_cases hil : i < (qs k' p').length
    · rw [List.getElem?_append_left hil] at hi
      have := r3 i e hi
      have hne2 : ¬ (2 * i = 2 * (qs k' p').length) := by omega
      have hne3 : ¬ (2 * i = 2 * (qs k' p').length + 1) := by omega
      simp [sI, hne2, hne3, show 20 * (8 * k' + p') + 2 * i ≠ 20 * (8 * k' + p') + 2 * (qs k' p').length + 1 by omega, show 20 * (8 * k' + p') + 2 * i ≠ 20 * (8 * k' + p') + 2 * (qs k' p').length by omega, show 20 * (8 * k' + p') + 2 * i + 1 ≠ 20 * (8 * k' + p') + 2 * (qs k' p').length by omega, show i ≠ (qs k' p').length by omega, this]
    · have hlt := (List.getElem?_eq_some_iff.mp hi).1
      have hie : i = (qs k' p').length := by simp at hlt; omega
      subst hie
      simp at hi
      subst hi
      simp [sI, show 20 * (8 * k' + p') + 2 * (qs k' p').length ≠ 20 * (8 * k' + p') + 2 * (qs k' p').length + 1 by omega]
  · simp only [uQ, if_neg e]
    refine ⟨r1, ?_, fun i e' hi => ?_⟩
    · have : ¬ (8 * k' + p' = 8 * k + p) := by omega
      simp [sI, this, r2]
    · have hil := (List.getElem?_eq_some_iff.mp hi).1
      have := r3 i e' hi
      have hne : 8 * k' + p' ≠ 8 * k + p := by omega
      simp only [sI, show ((26 : Nat) = 27) = False by simp, false_and, if_false, true_and, show (20 * (8 * k' + p') + 2 * i = 20 * (8 * k + p) + 2 * (qs k p).length + 1) = False by simp; omega, show (20 * (8 * k' + p') + 2 * i = 20 * (8 * k + p) + 2 * (qs k p).length) = False by simp; omega, show (20 * (8 * k' + p') + 2 * i + 1 = 20 * (8 * k + p) + 2 * (qs k p).length + 1) = False by simp; omega, show (20 * (8 * k' + p') + 2 * i + 1 = 20 * (8 * k + p) + 2 * (qs k p).length) = False by simp; omega]
      exact this
theorem M_asked {bm : Bool} {κ σ : Sg} {s : St} (h : RMs bm κ s σ) (hn : s.2.1.length ≤ 188) {k kd p a g wv : Nat} (hk : k < 6) (hp : p < 8) (hkd : kd = 1 ∨ kd = 2) (hg : g < 6) (eg : s.1.1 9 k p = nI g) (hw : wv ≤ 3) (ew : s.1.1 6 k 1 = nI wv) (hhad : wv ≠ 0 → s.1.1 6 k 0 = 1) (hl : (s.2.2 k p).length ≤ 8) (Q : Sg → Prop) (hQ : ∀ σ1, RMs bm κ (aAsk s k kd p a) σ1 → Q σ1) : wp_X5_asked σ (nI k) (nI p) (nI kd) (nI a) Q := by
  obtain ⟨τ, ls, qs⟩ := s
  simp only at hn eg ew hhad hl
  have hv : vp_in (nI k) 6 := vp_n (by omega) (by omega)
  have hv48 : vp_in (nI (8 * k + p)) 48 := vp_n (by omega) (by omega)
  have hgx : ix (τ.1 9 k p) = g := by rw [eg, i_n g (by omega)]
  have hm := h.2.1 k p hk hp
  have e28 : σ.1 28 0 k = nI wv := ((h.2.2.2.1 k hk).1.1).trans ew
  unfold wp_X5_asked
  unfold wp_X5_place
  dsimp only
  rw [pl_n, i_n (8 * k + p) (by omega), i_n k (by omega), e28, hm.2.1]
  unfold aAsk at hQ
  simp only [hgx] at hQ
  have nq : ¬ ((τ.1 6 k 1 = 2 ∨ τ.1 6 k 1 = 3) ∧ τ.1 6 k 2 = nI p) → (vp_in (nI (8 * k + p)) 48 ∧ (((τ.1 8 k p) = 0 → (∀ σ8, σ8 = sI σ 41 0 (ix 2) ((σ.1 41 0 (ix 2)) + 1) → (vp_in (nI (8 * k + p)) 48 ∧ (wp_X5_send σ8 (nI kd) (nI k) (σ8.1 23 0 (8 * k + p)) (nI p) (nI a) 0 (fun σ11 => ((nI kd = 2 → (vp_in (nI (8 * k + p)) 48 ∧ (∀ σ15, σ15 = sI σ11 23 0 (8 * k + p) (nI a) → Q σ15))) ∧ (¬ (nI kd = 2) → (vp_in (nI (8 * k + p)) 48 ∧ (vp_in (nI (8 * k + p)) 48 ∧ (∀ σ19, σ19 = sI σ11 23 0 (8 * k + p) (σ11.1 23 0 (8 * k + p)) → Q σ19)))))))))) ∧ (¬ ((τ.1 8 k p) = 0) → ((nI kd = 1 → (vp_in (nI (8 * k + p)) 48 ∧ (vp_in (nI (8 * k + p)) 48 ∧ (∀ σ24, σ24 = sI σ 24 0 (8 * k + p) ((σ.1 24 0 (8 * k + p)) ||| (1 <<< (nI a &&& 31))) → (vp_in (nI (8 * k + p)) 48 ∧ (∀ σ27, σ27 = sI σ24 21 0 (8 * k + p) 1 → (∀ σ30, σ30 = sI σ27 41 0 (ix 3) ((σ27.1 41 0 (ix 3)) + 1) → (wp_X5_send σ30 3 (nI k) (nI a) (nI p) (-1) 0 (fun σ32 => Q σ32))))))))) ∧ (¬ (nI kd = 1) → (∀ σ35, σ35 = sI σ 41 0 (ix 4) ((σ.1 41 0 (ix 4)) + 1) → (vp_in (nI (8 * k + p)) 48 ∧ (wp_X5_send σ35 4 (nI k) (nI a) (nI p) (-1) (σ35.1 24 0 (8 * k + p)) (fun σ38 => (vp_in (nI (8 * k + p)) 48 ∧ (∀ σ41, σ41 = sI σ38 22 0 (8 * k + p) 0 → (vp_in (nI (8 * k + p)) 48 ∧ (∀ σ44, σ44 = sI σ41 24 0 (8 * k + p) 0 → (vp_in (nI (8 * k + p)) 48 ∧ (∀ σ47, σ47 = sI σ44 21 0 (8 * k + p) 0 → (vp_in (nI (8 * k + p)) 48 ∧ (∀ σ50, σ50 = sI σ47 23 0 (8 * k + p) (nI a) → Q σ50))))))))))))))))) := by
    intro hnq
    rw [if_neg hnq] at hQ
    refine ⟨hv48, fun c8 => ?_, fun c8 => ⟨fun c1 => ?_, fun c1 => ?_⟩⟩
    · rw [if_pos c8] at hQ
      intro σ8 e8
      have a0 : RMs bm κ (aCnt τ 2, ls, qs) σ8 := by
        rw [e8, ixl2]
        exact h.cnt (c := 2) (by decide)
      have eg8 : σ8.1 23 0 (8 * k + p) = nI g := by
        rw [(a0.2.1 k p hk hp).2.2.1]
        exact eg
      refine ⟨hv48, ?_⟩
      rw [eg8]
      refine M_send a0 hn (to := g) hk hp (by omega) _ (fun σ11 a1 => ?_)
      have a2 : RM bm κ (aCnt (aCnt τ 1) 2) (ls ++ [(kd, k, g, p, nI a, 0, lwd τ kd k p)]) qs σ11 := by
        rw [aCnt_comm τ (by decide : (1 : Nat) ≠ 2)]
        exact a1
      refine ⟨fun c2 => ⟨hv48, fun σ15 e15 => hQ σ15 ?_⟩, fun c2 => ⟨hv48, hv48, fun σ19 e19 => hQ σ19 ?_⟩⟩
      · have k2 : kd = 2 := nI_inj (by omega) (by omega) c2
        show RM bm κ (if kd = 2 then sI (aCnt (aCnt τ 1) 2) 9 k p (nI a) else aCnt (aCnt τ 1) 2) _ qs σ15
        rw [if_pos k2, e15]
        exact a2.pg (a := 23) (b := 9) (by omega) hp (nI a)
      · have k2 : kd ≠ 2 := fun z => c2 (by rw [z]; rfl)
        show RM bm κ (if kd = 2 then sI (aCnt (aCnt τ 1) 2) 9 k p (nI a) else aCnt (aCnt τ 1) 2) _ qs σ19
        rw [if_neg k2, e19, sI_self]
        exact a2
    · rw [if_neg c8] at hQ
      have k1 : kd = 1 := nI_inj (by omega) (by omega) c1
      rw [if_pos k1] at hQ
      refine ⟨hv48, hv48, fun σ24 e24 => ⟨hv48, fun σ27 e27 σ30 e30 => ?_⟩⟩
      rw [hm.2.2.2] at e24
      have a1 := (h.pg (a := 24) (b := 10) (by omega) (k := k) hp (τ.1 10 k p ||| (1 <<< (nI a &&& 31)))).pg (a := 21) (b := 7) (by omega) (k := k) hp 1
      rw [← e24, ← e27] at a1
      have a2 := a1.cnt (c := 3) (by decide)
      rw [ixl3] at e30
      rw [← e30] at a2
      refine M_send (s := (_, ls, qs)) a2 hn (kd := 3) (to := a) hk hp (by decide) _ (fun σ32 a3 => hQ σ32 ?_)
      show RM bm κ _ (ls ++ [(3, k, a, p, -1, 0, lwd τ 3 k p)]) qs σ32
      rw [aCnt_comm _ (by decide : (1 : Nat) ≠ 3)]
      exact a3
    · rw [if_neg c8] at hQ
      have k1 : kd ≠ 1 := fun z => c1 (by rw [z]; rfl)
      rw [if_neg k1] at hQ
      intro σ35 e35
      have a1 := h.cnt (c := 4) (by decide)
      rw [ixl4] at e35
      rw [← e35] at a1
      have ec : σ35.1 24 0 (8 * k + p) = τ.1 10 k p := (a1.2.1 k p hk hp).2.2.2
      refine ⟨hv48, ?_⟩
      rw [ec]
      refine M_send (s := (_, ls, qs)) a1 hn (kd := 4) (to := a) hk hp (by decide) _ (fun σ38 a2 => ?_)
      refine ⟨hv48, fun σ41 e41 => ⟨hv48, fun σ44 e44 => ⟨hv48, fun σ47 e47 => ⟨hv48, fun σ50 e50 => hQ σ50 ?_⟩⟩⟩⟩
      have a3 := (((a2.pg (a := 22) (b := 8) (by omega) (k := k) hp 0).pg (a := 24) (b := 10) (by omega) (k := k) hp 0).pg (a := 21) (b := 7) (by omega) (k := k) hp 0).pg (a := 23) (b := 9) (by omega) (k := k) hp (nI a)
      rw [← e41, ← e44, ← e47, ← e50] at a3
      show RM bm κ _ (ls ++ [(4, k, a, p, -1, τ.1 10 k p, lwd τ 4 k p)]) qs σ50
      rw [aCnt_comm _ (by decide : (1 : Nat) ≠ 4), sI_comm (a := 10) (k := k) (f := p) (a' := 8) (k' := k) (f' := p) (by omega)]
      exact a3
  refine ⟨hv, fun c => ?_, fun c => ⟨hv, fun c2 => ?_, fun c2 => ?_⟩⟩
  · refine nq (fun z => ?_)
    have hw2 : wv < 2 := (nI_ltI (b := 2) (by omega) (by omega)).mp c
    rw [ew] at z
    rcases z.1 with y | y
    · have := nI_inj (b := 2) (by omega) (by omega) y; omega
    · have := nI_inj (b := 3) (by omega) (by omega) y; omega
  · have hw2 : ¬ wv < 2 := fun z => c (nI_lt (b := 2) z (by omega))
    have g29 := ((h.2.2.2.1 k hk).2 (hhad (by omega))).1
    rw [g29] at c2
    have hin : (τ.1 6 k 1 = 2 ∨ τ.1 6 k 1 = 3) ∧ τ.1 6 k 2 = nI p := by
      refine ⟨?_, c2⟩
      rw [ew]
      rcases (show wv = 2 ∨ wv = 3 by omega) with rfl | rfl
      · exact Or.inl rfl
      · exact Or.inr rfl
    rw [if_pos hin] at hQ
    obtain ⟨r1, r2, r3⟩ := h.2.2.2.2.2.2 k p hk hp
    simp only at r1 r2 r3
    have hix : (20 * nI (8 * k + p) + 2 * nI (qs k p).length : Int32) = nI (20 * (8 * k + p) + 2 * (qs k p).length) := by rw [nI_20lit, nI_2lit, nI_add]
    rw [r2, hix, i_n (20 * (8 * k + p) + 2 * (qs k p).length) (by omega)]
    refine ⟨hv48, vp_n (by omega) (by omega), fun σ56 e56 => ?_⟩
    have e56q : σ56.1 27 0 (8 * k + p) = nI (qs k p).length := by rw [e56]; simp [sI]; exact r2
    rw [e56q, hix, nI_p1, i_n (20 * (8 * k + p) + 2 * (qs k p).length + 1) (by omega)]
    refine ⟨hv48, vp_n (by omega) (by omega), fun σ60 e60 => ⟨hv48, hv48, fun σ64 e64 => hQ σ64 ?_⟩⟩
    have e60q : σ60.1 27 0 (8 * k + p) = nI (qs k p).length := by rw [e60]; simp [sI]; exact e56q
    rw [e64, e60q, e60, e56]
    exact h.qu hk hp hl
  · have hw2 : ¬ wv < 2 := fun z => c (nI_lt (b := 2) z (by omega))
    have g29 := ((h.2.2.2.1 k hk).2 (hhad (by omega))).1
    rw [g29] at c2
    exact nq (fun z => c2 z.2)
theorem M_goOver {bm : Bool} {κ σ : Sg} {s : St} (h : RMs bm κ s σ) {k p g wv : Nat} (hk : k < 6) (hp : p < 8) (hn : s.2.1.length + (s.2.2 k p).length ≤ 188) (hg : g < 6) (eg : s.1.1 9 k p = nI g) (hw : wv ≤ 1) (ew : s.1.1 6 k 1 = nI wv) (hhad : wv ≠ 0 → s.1.1 6 k 0 = 1) (he : ∀ e, e ∈ s.2.2 k p → (e.1 = 1 ∨ e.1 = 2) ∧ e.2 < 6) (Q : Sg → Prop) (hQ : ∀ σ1, RMs false κ (aGo s k p) σ1 → Q σ1) : wp_X5_goOver σ (nI k) (nI p) Q := by
  obtain ⟨τ, ls, qs⟩ := s
  simp only at hn eg ew hhad he
  have hv48 : vp_in (nI (8 * k + p)) 48 := vp_n (by omega) (by omega)
  obtain ⟨r1, r2, r3⟩ := h.2.2.2.2.2.2 k p hk hp
  simp only at r1 r2 r3
  unfold wp_X5_goOver
  unfold wp_X5_place
  dsimp only
  rw [pl_n, i_n (8 * k + p) (by omega), r2]
  refine ⟨hv48, ?_⟩
  -- the second loop
  have L2 : ∀ (σ6 : Sg), RM false κ τ ls (uQ qs k p []) σ6 → (∀ i e, (qs k p)[i]? = some e → σ6.1 44 0 (2 * i) = nI e.1 ∧ σ6.1 44 0 (2 * i + 1) = nI e.2) → ∃ n, lp_X5_goOver_61 (nI k) (nI p) Q n σ6 (nI (8 * k + p)) (nI (qs k p).length) 0 := by
    intro σ6 h6 hasd
    have L : ∀ (es : List (Nat × Nat)) (i : Nat) (s : St) (σ' : Sg), (∀ j e, es[j]? = some e → (qs k p)[i + j]? = some e) → i + es.length = (qs k p).length → RMs true σ6 s σ' → s.2.1.length + es.length ≤ 188 → (∃ g, g < 6 ∧ s.1.1 9 k p = nI g) → s.1.1 6 k 1 = nI wv → (wv ≠ 0 → s.1.1 6 k 0 = 1) → (s.2.2 k p).length ≤ 8 → (∀ σ1, RMs true σ6 (aGoL k p es s) σ1 → Q σ1) → lp_X5_goOver_61 (nI k) (nI p) Q (es.length + 1) σ' (nI (8 * k + p)) (nI (qs k p).length) (nI i) := by
      intro es
      induction es with
      | nil =>
        intro i s σ' h1 hlen hR _ _ _ _ _ hQ2
        rw [lp_X5_goOver_61]
        simp only [List.length_nil, Nat.add_zero] at hlen
        exact ⟨fun _ => hQ2 σ' hR, fun c => absurd (by rw [hlen]; exact nI_le (Nat.le_refl _) (by omega)) c⟩
      | cons e es ih =>
        intro i s σ' h1 hlen hR hl hgs hws hhs hqs hQ2
        rw [lp_X5_goOver_61]
        simp only [List.length_cons] at hlen hl
        have h0 := h1 0 e rfl
        rw [Nat.add_zero] at h0
        have hent := hasd i e h0
        refine ⟨fun c => absurd c (nI_ge (by omega) (by omega)), fun _ => ?_⟩
        rw [nI_2lit, nI_p1, i_n (2 * i) (by omega), i_n (2 * i + 1) (by omega)]
        refine ⟨vp_n (by omega) (by omega), vp_n (by omega) (by omega), ?_⟩
        rw [(hR.1.1 44 (Or.inr ⟨rfl, Or.inr (Or.inr rfl)⟩)).1, hent.1, hent.2, nI_p1]
        obtain ⟨g', hg', eg'⟩ := hgs
        have hem : e ∈ qs k p := List.mem_of_getElem? h0
        have hnq : ¬ ((s.1.1 6 k 1 = 2 ∨ s.1.1 6 k 1 = 3) ∧ s.1.1 6 k 2 = nI p) := by
          rintro ⟨y | y, -⟩
          · rw [hws] at y; have := nI_inj (b := 2) (by omega) (by omega) y; omega
          · rw [hws] at y; have := nI_inj (b := 3) (by omega) (by omega) y; omega
        refine M_asked hR (by omega) hk hp (he e hem).1 hg' eg' (wv := wv) (by omega) hws hhs hqs _ (fun σ1 hR1 => ?_)
        refine ih (i + 1) _ σ1 (fun j e' hj => ?_) (by omega) hR1 (by have := aAsk_len (s := s) (k := k) (kd := e.1) (p := p) (a := e.2); omega) ?_ ?_ ?_ ?_ (fun σ3 h3 => hQ2 σ3 h3)
        · have := h1 (j + 1) e' (by rw [List.getElem?_cons_succ]; exact hj)
          rw [show i + 1 + j = i + (j + 1) by omega]
          exact this
        · rcases aAsk_g (kd := e.1) (a := e.2) eg' with z | z
          · exact ⟨g', hg', z⟩
          · exact ⟨e.2, (he e hem).2, z⟩
        · rw [aAsk_6]; exact hws
        · rw [aAsk_6]; exact hhs
        · have : (aAsk s k e.1 p e.2).2.2 = s.2.2 := by
            unfold aAsk
            rw [if_neg hnq]
            split
            · rfl
            · split <;> rfl
          rw [this]
          exact hqs
    exact ⟨(qs k p).length + 1, L (qs k p) 0 (τ, ls, uQ qs k p []) σ6 (fun j e hj => by rw [Nat.zero_add]; exact hj) (by omega) (h6.self true) hn ⟨g, hg, eg⟩ ew hhad (by simp [uQ]) (fun σ1 h1 => hQ σ1 (h1.re h6))⟩
  -- the first loop
  have L1 : ∀ (m y : Nat) (σ' : Sg), y + m = 2 * (qs k p).length → RM false κ τ ls qs σ' → σ'.1 26 = σ.1 26 → (∀ i, i < y → σ'.1 44 0 i = σ.1 26 0 (20 * (8 * k + p) + i)) → lp_X5_goOver_17 (nI k) (nI p) Q (m + 1) σ' (nI (8 * k + p)) (nI (qs k p).length) (nI y) := by
    intro m
    induction m with
    | zero =>
      intro y σ' hy hR e26 hasd
      have hy : y = 2 * (qs k p).length := by omega
      subst hy
      rw [lp_X5_goOver_17, nI_2lit, i_n (8 * k + p) (by omega)]
      refine ⟨fun _ => ⟨hv48, fun σ6 e6 => ?_⟩, fun c => absurd (nI_le (Nat.le_refl _) (by omega)) c⟩
      refine L2 σ6 ?_ (fun i e hi => ?_)
      · have hkk : ∀ b, b ≠ 27 → σ6.1 b = σ'.1 b := fun b hb => by rw [e6, sI_k hb]
        have hkl : σ6.2.1 = σ'.2.1 := by rw [e6]; rfl
        refine ⟨by rw [e6]; exact hR.1.i (by decide) _ _ _, hR.2.1.o (hkk _ (by decide)) (hkk _ (by decide)) (hkk _ (by decide)) (hkk _ (by decide)) rfl rfl rfl rfl, hR.2.2.1.o (by rw [hkl]) rfl, hR.2.2.2.1.o (hkk _ (by decide)) (hkk _ (by decide)) (hkk _ (by decide)) (hkk _ (by decide)) (hkk _ (by decide)) (hkk _ (by decide)) (hkk _ (by decide)) (hkk _ (by decide)) (by rw [hkl]) (by rw [hkl]) rfl rfl, hR.2.2.2.2.1.o (by rw [hkk _ (by decide)]) (hkk _ (by decide)) rfl rfl, hR.2.2.2.2.2.1.o (by rw [hkk _ (by decide)]) (hkk _ (by decide)) (by rw [hkl]), ?_⟩
        intro k' p' hk' hp'
        obtain ⟨u1, u2, u3⟩ := hR.2.2.2.2.2.2 k' p' hk' hp'
        by_cases e : k' = k ∧ p' = p
        · obtain ⟨rfl, rfl⟩ := e
          simp only [uQ, and_self, if_true]
          refine ⟨by simp, by rw [e6]; simp [sI]; rfl, fun i e hi => by simp at hi⟩
        · simp only [uQ, if_neg e]
          have hne : ¬ (8 * k' + p' = 8 * k + p) := by omega
          refine ⟨u1, by rw [e6]; simp [sI, hne, u2], fun i e' hi => ?_⟩
          rw [hkk 26 (by decide)]
          exact u3 i e' hi
      · have hil := (List.getElem?_eq_some_iff.mp hi).1
        have h44 : σ6.1 44 = σ'.1 44 := by rw [e6, sI_k (by decide)]
        rw [h44, hasd (2 * i) (by omega), hasd (2 * i + 1) (by omega)]
        exact r3 i e hi
    | succ m ih =>
      intro y σ' hy hR e26 hasd
      rw [lp_X5_goOver_17, nI_2lit, nI_20lit, nI_add, nI_p1, i_n (20 * (8 * k + p) + y) (by omega), i_n y (by omega)]
      refine ⟨fun c => absurd c (nI_ge (by omega) (by omega)), fun _ => ⟨vp_n (by omega) (by omega), vp_n (by omega) (by omega), fun σ17 e17 => ?_⟩⟩
      refine ih (y + 1) σ17 (by omega) (by rw [e17]; exact hR.x (Or.inr rfl) _ _ _) (by rw [e17, sI_k (by decide)]; exact e26) (fun i hi => ?_)
      rw [e17, e26]
      by_cases e : i = y
      · subst e; simp [sI]
      · simp [sI, e]; exact hasd i (by omega)
  exact ⟨2 * (qs k p).length + 1, L1 (2 * (qs k p).length) 0 σ (by omega) h.weak rfl (fun i hi => by omega)⟩
theorem M_takeWords {bm : Bool} {κ τ σ : Sg} {ls : List Lt} {qs : Qu} (h : RM bm κ τ ls qs σ) {k p : Nat} {wd : Nat → Int64} (hk : k < 6) (hp : p < 8) (hwd : ∀ w, w < 4 → σ.2.1 43 0 w = wd w) (Q : Sg → Prop) (hQ : ∀ σ1, RM bm κ (sW τ k (p * 4) wd) ls qs σ1 → Q σ1) : wp_X5_takeWords σ (nI (8 * k + p)) Q := by
  have L : ∀ (m y : Nat) (σ' : Sg), y + m = 4 → σ'.1 = σ.1 → (∀ b, b ≠ 25 → σ'.2.1 b = σ.2.1 b) → EqC bm κ σ' → (∀ i, σ'.2.1 25 0 i = if 4 * (8 * k + p) ≤ i ∧ i < 4 * (8 * k + p) + y then wd (i - 4 * (8 * k + p)) else σ.2.1 25 0 i) → lp_X5_takeWords_2 (nI (8 * k + p)) Q (m + 1) σ' (nI y) := by
    intro m
    induction m with
    | zero =>
      intro y σ' hy a1 a2 a3 a4
      have hy : y = 4 := by omega
      subst hy
      rw [lp_X5_takeWords_2]
      refine ⟨fun _ => hQ σ' ?_, fun c => absurd (nI_le (Nat.le_refl 4) (by decide)) c⟩
      refine ⟨a3, h.2.1.o (by rw [a1]) (by rw [a1]) (by rw [a1]) (by rw [a1]) rfl rfl rfl rfl, ?_, h.2.2.2.1.o (by rw [a1]) (by rw [a1]) (by rw [a1]) (by rw [a1]) (by rw [a1]) (by rw [a1]) (by rw [a1]) (by rw [a1]) (a2 _ (by decide)) (a2 _ (by decide)) rfl ?_, h.2.2.2.2.1.o (by rw [a1]) (by rw [a1]) rfl rfl, h.2.2.2.2.2.1.o (by rw [a1]) (by rw [a1]) (a2 _ (by decide)), h.2.2.2.2.2.2.o (by rw [a1]) (by rw [a1])⟩
      · intro k' i' hk' hi'
        rw [a4]
        have h0 := h.2.2.1 k' i' hk' hi'
        by_cases e : k' = k ∧ p * 4 ≤ i' ∧ i' < p * 4 + 4
        · obtain ⟨rfl, e1, e2⟩ := e
          rw [if_pos (by omega)]
          simp only [sW, true_and, e1, e2, and_self, if_true]
          congr 1
          omega
        · rw [if_neg (by omega)]
          have e' : ¬ (11 = 11 ∧ k' = k ∧ p * 4 ≤ i' ∧ i' < p * 4 + 4) := fun z => e z.2
          show σ.2.1 25 0 (32 * k' + i') = if 11 = 11 ∧ k' = k ∧ p * 4 ≤ i' ∧ i' < p * 4 + 4 then wd (i' - p * 4) else τ.2.1 11 k' i'
          rw [if_neg e']
          exact h0
      · funext x y; simp [sW]
    | succ m ih =>
      intro y σ' hy a1 a2 a3 a4
      rw [lp_X5_takeWords_2, nI_4lit, nI_add, nI_p1, i_n y (by omega), i_n (4 * (8 * k + p) + y) (by omega)]
      refine ⟨fun c => absurd c (nI_ge (b := 4) (by omega) (by omega)), fun _ => ⟨vp_n (by omega) (by omega), vp_n (by omega) (by omega), fun σ3 e3 => ?_⟩⟩
      refine ih (y + 1) σ3 (by omega) (by rw [e3]; exact a1) (fun b hb => by rw [e3, sL_k hb]; exact a2 b hb) (by rw [e3]; exact a3.l (by decide) _ _ _) (fun i => ?_)
      rw [e3, a2 43 (by decide), hwd y (by omega)]
      show (if 25 = 25 ∧ 0 = 0 ∧ i = 4 * (8 * k + p) + y then wd y else σ'.2.1 25 0 i) = _
      by_cases e : i = 4 * (8 * k + p) + y
      · rw [if_pos ⟨rfl, rfl, e⟩, if_pos (by omega)]
        congr 1
        omega
      · rw [if_neg (fun z => e z.2.2), a4]
        by_cases e2 : 4 * (8 * k + p) ≤ i ∧ i < 4 * (8 * k + p) + y
        · rw [if_pos e2, if_pos (by omega)]
        · rw [if_neg e2, if_neg (by omega)]
  exact ⟨5, L 4 0 σ (by decide) rfl (fun _ _ => rfl) h.1 (fun i => by rw [if_neg (by omega)])⟩
theorem M_drop {bm : Bool} {κ τ σ : Sg} {ls : List Lt} {qs : Qu} (h : RM bm κ τ ls qs σ) {i : Nat} (hi : i < ls.length) (Q : Sg → Prop) (hQ : ∀ σ1, RM bm κ τ (ls.eraseIdx i) qs σ1 → Q σ1) : wp_X5_drop σ (nI i) Q := by
  obtain ⟨l1, l2, l3⟩ := h.2.2.2.2.2.1
  have hfl : σ.1 20 0 20 - 1 = nI (ls.length - 1) := by
    rw [l1, show ls.length = (ls.length - 1) + 1 by omega]
    exact nI_pred _
  unfold wp_X5_drop
  rw [hfl, nI_lit7]
  intro σ1 e1
  have f1 : ∀ σ' : Sg, (∀ b, b ≠ 38 → σ'.1 b = σ1.1 b) → σ'.1 20 0 20 = nI (ls.length - 1) := by
    intro σ' hb
    rw [hb 20 (by decide), e1]
    simp [sI]
  have L2 : ∀ (m y : Nat) (σ' : Sg), y + m = 4 * (ls.length - 1) → 4 * i ≤ y → EqC bm κ σ' → (∀ b, b ≠ 38 → σ'.1 b = σ1.1 b) → (∀ b, b ≠ 39 → σ'.2.1 b = σ.2.1 b) → (∀ j, σ'.1 38 0 j = if 7 * i ≤ j ∧ j < 7 * (ls.length - 1) then σ.1 38 0 (j + 7) else σ.1 38 0 j) → (∀ j, σ'.2.1 39 0 j = if 4 * i ≤ j ∧ j < y then σ.2.1 39 0 (j + 4) else σ.2.1 39 0 j) → lp_X5_drop_51 (nI i) Q (m + 1) σ' (nI y) := by
    intro m
    induction m with
    | zero =>
      intro y σ' hy hiy a1 a2 a3 a4 a5
      have hy : y = 4 * (ls.length - 1) := by omega
      subst hy
      rw [lp_X5_drop_51, f1 σ' a2, nI_4lit]
      refine ⟨fun _ => hQ σ' ?_, fun c => absurd (nI_le (Nat.le_refl _) (by omega)) c⟩
      have b1 : ∀ b, b ≠ 38 → b ≠ 20 → σ'.1 b = σ.1 b := fun b h1 h2 => by rw [a2 b h1, e1, sI_k h2]
      refine ⟨a1, h.2.1.o (b1 _ (by decide) (by decide)) (b1 _ (by decide) (by decide)) (b1 _ (by decide) (by decide)) (b1 _ (by decide) (by decide)) rfl rfl rfl rfl, h.2.2.1.o (a3 _ (by decide)) rfl, h.2.2.2.1.o (b1 _ (by decide) (by decide)) (b1 _ (by decide) (by decide)) (b1 _ (by decide) (by decide)) (b1 _ (by decide) (by decide)) (b1 _ (by decide) (by decide)) (b1 _ (by decide) (by decide)) (b1 _ (by decide) (by decide)) (b1 _ (by decide) (by decide)) (a3 _ (by decide)) (a3 _ (by decide)) rfl rfl, h.2.2.2.2.1.o ?_ (b1 _ (by decide) (by decide)) rfl rfl, ⟨?_, ?_, ?_⟩, h.2.2.2.2.2.2.o (b1 _ (by decide) (by decide)) (b1 _ (by decide) (by decide))⟩
      · rw [a2 20 (by decide), e1]; simp [sI]
      · rw [List.length_eraseIdx_of_lt hi]; exact f1 σ' a2
      · rw [List.length_eraseIdx_of_lt hi]; omega
      · intro j l' hj
        rw [List.getElem?_eraseIdx] at hj
        split at hj
        · rename_i hji
          have := l3 j l' hj
          simp only [a4, a5, show ¬ (7 * i ≤ 7 * j ∧ 7 * j < 7 * (ls.length - 1)) by omega, show ¬ (7 * i ≤ 7 * j + 1 ∧ 7 * j + 1 < 7 * (ls.length - 1)) by omega, show ¬ (7 * i ≤ 7 * j + 2 ∧ 7 * j + 2 < 7 * (ls.length - 1)) by omega, show ¬ (7 * i ≤ 7 * j + 3 ∧ 7 * j + 3 < 7 * (ls.length - 1)) by omega, show ¬ (7 * i ≤ 7 * j + 4 ∧ 7 * j + 4 < 7 * (ls.length - 1)) by omega, show ¬ (7 * i ≤ 7 * j + 5 ∧ 7 * j + 5 < 7 * (ls.length - 1)) by omega, if_false]
          refine ⟨this.1, fun w hw => ?_⟩
          rw [if_neg (by omega)]
          exact this.2 w hw
        · rename_i hji
          have hjl := (List.getElem?_eq_some_iff.mp hj).1
          have := l3 (j + 1) l' hj
          simp only [a4, a5, show (7 * i ≤ 7 * j ∧ 7 * j < 7 * (ls.length - 1)) by omega, show (7 * i ≤ 7 * j + 1 ∧ 7 * j + 1 < 7 * (ls.length - 1)) by omega, show (7 * i ≤ 7 * j + 2 ∧ 7 * j + 2 < 7 * (ls.length - 1)) by omega, show (7 * i ≤ 7 * j + 3 ∧ 7 * j + 3 < 7 * (ls.length - 1)) by omega, show (7 * i ≤ 7 * j + 4 ∧ 7 * j + 4 < 7 * (ls.length - 1)) by omega, show (7 * i ≤ 7 * j + 5 ∧ 7 * j + 5 < 7 * (ls.length - 1)) by omega, and_self, if_true]
          refine ⟨?_, fun w hw => ?_⟩
          · obtain ⟨⟨d0, d1, d2, d3, d4, d5⟩, -⟩ := this
            refine ⟨?_, ?_, ?_, ?_, ?_, ?_⟩
            · rw [← d0]; congr 1
            · rw [← d1]; congr 1
            · rw [← d2]; congr 1
            · rw [← d3]; congr 1
            · rw [← d4]; congr 1
            · rw [← d5]; congr 1
          · rw [if_pos (by omega), show 4 * j + w + 4 = 4 * (j + 1) + w by omega]
            exact this.2 w hw
    | succ m ih =>
      intro y σ' hy hiy a1 a2 a3 a4 a5
      rw [lp_X5_drop_51, f1 σ' a2, nI_4lit, nI_p4, nI_p1, i_n y (by omega), i_n (y + 4) (by omega)]
      refine ⟨fun c => absurd c (nI_ge (by omega) (by omega)), fun _ => ⟨vp_n (by omega) (by omega), vp_n (by omega) (by omega), fun σ6 e6 => ?_⟩⟩
      refine ih (y + 1) σ6 (by omega) (by omega) (by rw [e6]; exact a1.l (by decide) _ _ _) (by rw [e6]; exact a2) (fun b hb => by rw [e6, sL_k hb]; exact a3 b hb) (by rw [e6]; exact a4) (fun j => ?_)
      rw [e6]
      show (if 39 = 39 ∧ 0 = 0 ∧ j = y then σ'.2.1 39 0 (y + 4) else σ'.2.1 39 0 j) = _
      by_cases e : j = y
      · subst e
        rw [if_pos ⟨rfl, rfl, rfl⟩, a5, if_neg (by omega), if_pos (by omega)]
      · rw [if_neg (fun z => e z.2.2), a5]
        by_cases e2 : 4 * i ≤ j ∧ j < y
        · rw [if_pos e2, if_pos (by omega)]
        · rw [if_neg e2, if_neg (by omega)]
  have L1 : ∀ (m y : Nat) (σ' : Sg), y + m = 7 * (ls.length - 1) → 7 * i ≤ y → EqC bm κ σ' → (∀ b, b ≠ 38 → σ'.1 b = σ1.1 b) → σ'.2.1 = σ.2.1 → (∀ j, σ'.1 38 0 j = if 7 * i ≤ j ∧ j < y then σ.1 38 0 (j + 7) else σ.1 38 0 j) → lp_X5_drop_15 (nI i) Q (m + 1) σ' (nI y) := by
    intro m
    induction m with
    | zero =>
      intro y σ' hy hiy a1 a2 a3 a4
      have hy : y = 7 * (ls.length - 1) := by omega
      subst hy
      rw [lp_X5_drop_15, f1 σ' a2, nI_lit7, nI_4lit]
      refine ⟨fun _ => ⟨4 * (ls.length - 1) - 4 * i + 1, L2 (4 * (ls.length - 1) - 4 * i) (4 * i) σ' (by omega) (Nat.le_refl _) a1 a2 (fun b _ => by rw [a3]) a4 (fun j => by rw [a3, if_neg (by omega)])⟩, fun c => absurd (nI_le (Nat.le_refl _) (by omega)) c⟩
    | succ m ih =>
      intro y σ' hy hiy a1 a2 a3 a4
      rw [lp_X5_drop_15, f1 σ' a2, nI_lit7, nI_p7, nI_p1, i_n y (by omega), i_n (y + 7) (by omega)]
      refine ⟨fun c => absurd c (nI_ge (by omega) (by omega)), fun _ => ⟨vp_n (by omega) (by omega), vp_n (by omega) (by omega), fun σ6 e6 => ?_⟩⟩
      refine ih (y + 1) σ6 (by omega) (by omega) (by rw [e6]; exact a1.i (by decide) _ _ _) (fun b hb => by rw [e6, sI_k hb]; exact a2 b hb) (by rw [e6]; exact a3) (fun j => ?_)
      rw [e6]
      show (if 38 = 38 ∧ 0 = 0 ∧ j = y then σ'.1 38 0 (y + 7) else σ'.1 38 0 j) = _
      by_cases e : j = y
      · subst e
        rw [if_pos ⟨rfl, rfl, rfl⟩, a4, if_neg (by omega), if_pos (by omega)]
      · rw [if_neg (fun z => e z.2.2), a4]
        by_cases e2 : 7 * i ≤ j ∧ j < y
        · rw [if_pos e2, if_pos (by omega)]
        · rw [if_neg e2, if_neg (by omega)]
  refine ⟨7 * (ls.length - 1) - 7 * i + 1, L1 (7 * (ls.length - 1) - 7 * i) (7 * i) σ1 (by omega) (Nat.le_refl _) (by rw [e1]; exact h.1.i (by decide) _ _ _) (fun _ _ => rfl) (by rw [e1]; rfl) (fun j => ?_)⟩
  rw [if_neg (by omega), e1, sI_k (by decide)]
