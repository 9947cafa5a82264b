/-! PURE: what read, write and deliver keep -/
theorem aTake_0 {τ : Sg} {k : Nat} {x1 x2 x3 : Int32} {x4 : Int64} : (aTake τ k x1 x2 x3 x4).1 6 k 0 = 1 := by simp [aTake, sI, sL]
theorem aTake_1 {τ : Sg} {k : Nat} {x1 x2 x3 : Int32} {x4 : Int64} : (aTake τ k x1 x2 x3 x4).1 6 k 1 = τ.1 6 k 1 := by simp [aTake, sI, sL]
theorem aTake_2 {τ : Sg} {k : Nat} {x1 x2 x3 : Int32} {x4 : Int64} : (aTake τ k x1 x2 x3 x4).1 6 k 2 = x1 := by simp [aTake, sI, sL]
theorem aTake_3 {τ : Sg} {k : Nat} {x1 x2 x3 : Int32} {x4 : Int64} : (aTake τ k x1 x2 x3 x4).1 6 k 3 = x2 := by simp [aTake, sI, sL]
theorem aTake_66 {τ : Sg} {k : Nat} {x1 x2 x3 : Int32} {x4 : Int64} : (aTake τ k x1 x2 x3 x4).1 6 k 6 = 0 := by simp [aTake, sI, sL]
theorem aTake_7 {τ : Sg} {k : Nat} {x1 x2 x3 : Int32} {x4 : Int64} : (aTake τ k x1 x2 x3 x4).1 6 k 7 = 0 := by simp [aTake, sI, sL]
theorem TyK.mk' {N : Nat} {t : Sg} {k c p w : Nat} (h1 : t.1 6 k 1 = nI c) (hc : c ≤ 2) (h2 : t.1 6 k 2 = nI p) (hp : p < 8) (h3 : t.1 6 k 3 = nI w) (hw : w < 4) (h6 : t.1 6 k 6 = 0) (h0 : t.1 6 k 0 = 1) (h7 : t.1 6 k 7 = 0 ∨ t.1 6 k 7 = 1) (hk : k < N) : TyK N t k ∧ wt t k = c ∧ pg t k = p := by
  have e1 : wt t k = c := by unfold wt; rw [h1, i_n c (by omega)]
  have e2 : pg t k = p := by unfold pg; rw [h2, i_n p (by omega)]
  have e3 : wd t k = w := by unfold wd; rw [h3, i_n w (by omega)]
  have e6 : an t k = 0 := by unfold an; rw [h6]; rfl
  refine ⟨?_, e1, e2⟩
  unfold TyK
  rw [e1, e2, e3, e6, h1, h2, h3, h6, h0]
  exact ⟨⟨rfl, by omega⟩, ⟨rfl, hp⟩, ⟨rfl, hw⟩, ⟨rfl, by omega⟩, fun _ => rfl, Or.inr rfl, fun _ => ⟨rfl, hk⟩, h7⟩
/-- taken up and done at once -/
theorem I_tf {N : Nat} {τ : Sg} {ls : List Lt} {qs : Qu} {pp k p w : Nat} {x3 : Int32} {x4 : Int64} (h : Inv N (τ, ls, qs) pp []) (hkN : k < N) (hp : p < 8) (hw : w < 4) (h0 : wt τ k = 0) : Inv N (aCnt (aFin (aTake τ k (nI p) (nI w) x3 x4) k) 7, ls, qs) pp [] := by
  have hN6 := h.1.1.2.1
  have hk : k < 6 := by omega
  refine Inv.c2 (τ := aFin (aTake τ k (nI p) (nI w) x3 x4) k) ?_ (fun b hb => aCnt_k hb)
  have hm := TyK.mk' (N := N) (t := aFin (aTake τ k (nI p) (nI w) x3 x4) k) (k := k) (c := 0) (p := p) (w := w) aFin_w (by omega) (by rw [aFin_i 6 k 2 (by decide) (by omega), aTake_2]) hp (by rw [aFin_i 6 k 3 (by decide) (by omega), aTake_3]) hw (by rw [aFin_i 6 k 6 (by decide) (by omega), aTake_66]) (by rw [aFin_i 6 k 0 (by decide) (by omega), aTake_0]) (by rw [aFin_i 6 k 7 (by decide) (by omega), aTake_7]; exact Or.inl rfl) hkN
  exact I_hand h hk (Fr.w0 h.2.1 h0) (by rw [h0]; omega) (fun k' f hne => by rw [aFin_i 6 k' f (by decide) (fun z => hne z.2.1), aTake_6 hne]) (fun b h2 h6 => by rw [aFin_k h2 h6, aTake_k h6]) hm.1 (by rw [hm.2.1]; omega) (fun z => by rw [hm.2.1] at z; omega)
/-- taken up, and asked for -/
theorem I_an {N : Nat} {τ : Sg} {ls : List Lt} {qs : Qu} {pp k p w kd : Nat} {x3 : Int32} {x4 : Int64} (h : Inv N (τ, ls, qs) pp []) (hkN : k < N) (hp : p < 8) (hw : w < 4) (h0 : wt τ k = 0) (hkd : kd = 1 ∨ kd = 2) (h8 : kd = 1 → τ.1 8 k p = 0) : Inv N (aSend (sI (aTake τ k (nI p) (nI w) x3 x4) 6 k 1 (nI kd), ls, qs) kd k (gs τ k p) p (nI k) 0) p [] := by
  have hN6 := h.1.1.2.1
  have hk : k < 6 := by omega
  have hm := TyK.mk' (N := N) (t := sI (aTake τ k (nI p) (nI w) x3 x4) 6 k 1 (nI kd)) (k := k) (c := kd) (p := p) (w := w) (by simp [sI]) (by omega) (by simp [sI, aTake_2]) hp (by simp [sI, aTake_3]) hw (by simp [sI, aTake_66]) (by simp [sI, aTake_0]) (by simp [sI, aTake_7]) hkN
  have hf := Fr.w0 h.2.1 h0
  have h1 := I_hand (τ1 := sI (aTake τ k (nI p) (nI w) x3 x4) 6 k 1 (nI kd)) h hk hf (by rw [h0]; omega) (fun k' f hne => by rw [← aTake_6 (τ := τ) (x1 := nI p) (x2 := nI w) (x3 := x3) (x4 := x4) hne]; simp [sI, hne]) (fun b h2 h6 => by rw [sI_k h6, aTake_k h6]) hm.1 (by rw [hm.2.1]; omega) (fun z => by rw [hm.2.1] at z; rw [hm.2.2]; exact h8 z)
  have hg := ((h.1.2.2 k p hk hp).2.2.1).2
  have h2 : Inv N (aCnt (sI (aTake τ k (nI p) (nI w) x3 x4) 6 k 1 (nI kd)) 1, ls, qs) p [] := (h1.pp p).c2 (fun b hb => aCnt_k hb)
  have e6 : (aCnt (sI (aTake τ k (nI p) (nI w) x3 x4) 6 k 1 (nI kd)) 1).1 6 = (sI (aTake τ k (nI p) (nI w) x3 x4) 6 k 1 (nI kd)).1 6 := aCnt_k (by decide)
  have h3 : Inv N (aCnt (sI (aTake τ k (nI p) (nI w) x3 x4) 6 k 1 (nI kd)) 1, ls, qs) p [(kd, k)] := ⟨h2.1, h2.2.1.pend hf hkd hkN (by rw [wt_c e6]; exact hm.2.1) (by rw [pg_c e6]; exact hm.2.2), h2.2.2⟩
  refine Inv.fly h3 (l := (kd, k, gs τ k p, p, nI k, 0, lwd (sI (aTake τ k (nI p) (nI w) x3 x4) 6 k 1 (nI kd)) kd k p)) ?_ (tid_12 hkd hk) (by show kd ≤ 3; omega)
  unfold LW
  rw [tid_12 hkd hk, wt_c e6, pg_c e6]
  refine ⟨by show 1 ≤ kd ∧ kd ≤ 6; omega, hkN, hg, hp, hkN, hkN, ?_, hm.2.2, fun z => absurd z (by show ¬ 5 ≤ kd; omega), fun _ => by show nI k = nI (ix (nI k)); rw [i_n k (by omega)]⟩
  show wt _ k = nd kd
  rw [hm.2.1]
  unfold nd
  rcases hkd with z | z <;> rw [z] <;> rfl
/-- taken up by the owner: calls -/
theorem I_cl {N : Nat} {τ : Sg} {ls : List Lt} {qs : Qu} {pp k p w : Nat} {x3 : Int32} {x4 : Int64} (h : Inv N (τ, ls, qs) pp []) (hkN : k < N) (hp : p < 8) (hw : w < 4) (h0 : wt τ k = 0) (h8 : τ.1 8 k p = 1) : Inv N (aCall (aTake τ k (nI p) (nI w) x3 x4, ls, qs) k p N) p [] := by
  have hN6 := h.1.1.2.1
  have hk : k < 6 := by omega
  have hf := Fr.w0 h.2.1 h0
  have e0 : (τ.1 6 k 1) = nI 0 := by
    have := (h.1.2.1 k hk).1.1
    rw [show wt (τ, ls, qs).1 k = 0 from h0] at this
    exact this
  have hm := TyK.mk' (N := N) (t := aTake τ k (nI p) (nI w) x3 x4) (k := k) (c := 0) (p := p) (w := w) (by rw [aTake_1]; exact e0) (by omega) aTake_2 hp aTake_3 hw aTake_66 aTake_0 (Or.inl aTake_7) hkN
  have h1 := I_hand (τ1 := aTake τ k (nI p) (nI w) x3 x4) h hk hf (by rw [h0]; omega) (fun k' f hne => aTake_6 hne) (fun b _ h6 => aTake_k h6) hm.1 (by rw [hm.2.1]; omega) (fun z => by rw [hm.2.1] at z; omega)
  obtain ⟨hTy, hT, ⟨o1, o2, o3, o4, o5, o6⟩, hC⟩ := h1
  exact I_call hTy hT hf hkN hp hm.2.2 (by rw [hm.2.1]; omega) (by rw [aTake_k (by decide)]; exact h8) aTake_66 aTake_0 (fun p' hp' _ => qs_w hT hk (by rw [hm.2.1]; omega) p' hp') (fun k' p' a b c _ d => o1 k' p' a b c d) o2 o3 o4 o5 o6 hC
theorem an_k {τ : Sg} {l : Lt} {N : Nat} (h : LW N τ l) (h2 : lk l ≤ 2) : tid l = (ix (ln l), ix (ln l)) := by
  unfold tid
  have := h.1
  rw [if_pos (by omega)]
theorem tid_34' {l : Lt} (h : lk l = 3 ∨ lk l = 4) : tid l = (lt l, lt l) := by
  unfold tid
  rw [if_neg (by omega), if_neg (by omega), if_neg (by omega)]
/-- letters 1 and 2 -/
theorem I_d12 {N : Nat} {τ : Sg} {A B : List Lt} {l : Lt} {qs : Qu} {pp : Nat} (h : Inv N (τ, A ++ l :: B, qs) pp []) (h2 : lk l ≤ 2) : Inv N (τ, A ++ B, qs) (lp l) [(lk l, ix (ln l))] ∧ Inv N (aAsk (τ, A ++ B, qs) (lt l) (lk l) (lp l) (ix (ln l))) (lp l) [] := by
  have hm : l ∈ A ++ l :: B := List.mem_append.mpr (Or.inr List.mem_cons_self)
  have hl := h.2.1.1 l hm
  have ht := an_k hl h2
  have hf := Fr.rem h.2.1 (by omega)
  rw [ht] at hf
  obtain ⟨l1, l2, l3, l4, l5, l6, l7, l8, l9, l10⟩ := hl
  rw [ht] at l5 l7 l8
  have h1 := h.rem (by omega)
  have hkd : lk l = 1 ∨ lk l = 2 := by omega
  have hnd : nd (lk l) = lk l := by unfold nd; rcases hkd with z | z <;> rw [z] <;> rfl
  have h3 : Inv N (τ, A ++ B, qs) (lp l) [(lk l, ix (ln l))] := ⟨h1.1, (h1.2.1.pp (lp l)).pend hf hkd l5 (by rw [← hnd]; exact l7) l8, h1.2.2⟩
  exact ⟨h3, I_ask h3 l4 l3⟩
/-- letter 3 -/
theorem I_d3 {N : Nat} {τ : Sg} {A B : List Lt} {l : Lt} {qs : Qu} {pp : Nat} (h : Inv N (τ, A ++ l :: B, qs) pp []) (h3 : lk l = 3) : Inv N (aGr τ (lt l) (lp l) (lf l) (lw l), A ++ B, qs) pp [] := by
  have hm : l ∈ A ++ l :: B := List.mem_append.mpr (Or.inr List.mem_cons_self)
  have hl := h.2.1.1 l hm
  have ht := tid_34' (Or.inl h3)
  have hf := Fr.rem h.2.1 (by omega)
  rw [ht] at hf
  obtain ⟨l1, l2, l3, l4, l5, l6, l7, l8, l9, l10⟩ := hl
  rw [ht, h3] at l7
  rw [ht] at l8
  have hw : wt τ (lt l) = 1 := l7
  have hN6 := h.1.1.2.1
  have hk : lt l < 6 := by omega
  have h1 := h.rem (by omega)
  have hown := h.2.2.1.2.1 (lt l) hk hw
  rw [show pg τ (lt l) = lp l from l8] at hown
  have hK := h.1.2.1 (lt l) hk
  obtain ⟨hK1, hK2, hK3, hK4, hK5, hK6, hK7, hK8⟩ := hK
  have h4 : Inv N (sI (sI (sW τ (lt l) (lp l * 4) (lw l)) 9 (lt l) (lp l) (nI (lf l))) 7 (lt l) (lp l) (if τ.1 6 (lt l) 7 = 0 then 1 else 0), A ++ B, qs) pp [] := by
    refine I_pg (k := lt l) (p := lp l) (g := lf l) h1 (fun b _ h7 h9 => by rw [sI_k h7, sI_k h9]; rfl) (fun k' p' hne => ?_) ?_ ?_ l2 hown
    · simp [sI, sW, hne]
    · simp only [sI, and_self, if_true]
      split
      · exact Or.inr (Or.inl rfl)
      · exact Or.inl rfl
    · simp [sI]
  have e6 : (sI (sI (sW τ (lt l) (lp l * 4) (lw l)) 9 (lt l) (lp l) (nI (lf l))) 7 (lt l) (lp l) (if τ.1 6 (lt l) 7 = 0 then 1 else 0)).1 6 = τ.1 6 := by rw [sI_6 (by decide), sI_6 (by decide)]; rfl
  unfold aGr
  generalize sI (sI (sW τ (lt l) (lp l * 4) (lw l)) 9 (lt l) (lp l) (nI (lf l))) 7 (lt l) (lp l) (if τ.1 6 (lt l) 7 = 0 then 1 else 0) = t at h4 e6 ⊢
  have ha : an τ (lt l) = 0 := hK5 (by show wt τ (lt l) ≠ 3; rw [hw]; omega)
  have h6 : τ.1 6 (lt l) 6 = 0 := by
    have := hK4.1
    rw [show an (τ, A ++ l :: B, qs).1 (lt l) = 0 from ha] at this
    exact this
  have hh := TyK.mk' (N := N) (t := aFin t (lt l)) (k := lt l) (c := 0) aFin_w (by omega) (by rw [aFin_i 6 _ 2 (by decide) (by omega), e6]; exact hK2.1) hK2.2 (by rw [aFin_i 6 _ 3 (by decide) (by omega), e6]; exact hK3.1) hK3.2 (by rw [aFin_i 6 _ 6 (by decide) (by omega), e6]; exact h6) (by rw [aFin_i 6 _ 0 (by decide) (by omega), e6]; exact (hK7 (by show wt τ (lt l) ≠ 0; rw [hw]; omega)).1) (by rw [aFin_i 6 _ 7 (by decide) (by omega), e6]; exact hK8) l3
  exact I_hand h4 hk hf (by rw [wt_c e6, hw]; omega) (fun k' f hne => aFin_i 6 k' f (by decide) (fun z => hne z.2.1)) (fun b h2 h6' => aFin_k h2 h6') hh.1 (by rw [hh.2.1]; omega) (fun z => by rw [hh.2.1] at z; omega)
/-- letter 4 -/
theorem I_d4 {N : Nat} {τ : Sg} {A B : List Lt} {l : Lt} {qs : Qu} {pp : Nat} (h : Inv N (τ, A ++ l :: B, qs) pp []) (h4 : lk l = 4) : Inv N (aCall (aGw τ (lt l) (lp l) (lc l) (lw l), A ++ B, qs) (lt l) (lp l) N) (lp l) [] := by
  have hm : l ∈ A ++ l :: B := List.mem_append.mpr (Or.inr List.mem_cons_self)
  have hl := h.2.1.1 l hm
  have ht := tid_34' (Or.inr h4)
  have hf := Fr.rem h.2.1 (by omega)
  rw [ht] at hf
  obtain ⟨l1, l2, l3, l4, l5, l6, l7, l8, l9, l10⟩ := hl
  rw [ht, h4] at l7
  rw [ht] at l8
  have hw : wt τ (lt l) = 2 := l7
  have hN6 := h.1.1.2.1
  have hk : lt l < 6 := by omega
  have h1 := h.rem (by omega)
  obtain ⟨hK1, hK2, hK3, hK4, hK5, hK6, hK7, hK8⟩ := h.1.2.1 (lt l) hk
  have ha : an τ (lt l) = 0 := hK5 (by show wt τ (lt l) ≠ 3; rw [hw]; omega)
  have h66 : τ.1 6 (lt l) 6 = 0 := by
    have := hK4.1
    rw [show an (τ, A ++ l :: B, qs).1 (lt l) = 0 from ha] at this
    exact this
  have h60 : τ.1 6 (lt l) 0 = 1 := (hK7 (by show wt τ (lt l) ≠ 0; rw [hw]; omega)).1
  have hno := h.2.2.1.2.2.2.2.1 l hm h4
  have hpw : ∀ l', l' ∈ A ++ B → lk l' = 4 → lp l' ≠ lp l := fun l' hl' hl4 => by
    obtain ⟨a1, a2, a3⟩ := List.pairwise_append.mp h.2.2.1.2.2.2.2.2
    rcases List.mem_append.mp hl' with z | z
    · exact a3 l' z l List.mem_cons_self hl4 h4
    · exact Ne.symm ((List.pairwise_cons.mp a2).1 l' z h4 hl4)
  obtain ⟨⟨⟨hN2, hN6', eN⟩, hK, hPt⟩, hT, ⟨o1, o2, o3, o4, o5, o6⟩, hC⟩ := h1
  simp only at eN hK hPt hT o1 o2 o3 o4 o5 o6 hC
  have e6 : (aGw τ (lt l) (lp l) (lc l) (lw l)).1 6 = τ.1 6 := by unfold aGw; rw [sI_6 (by decide), sI_6 (by decide), sI_6 (by decide)]; rfl
  have e0 : (aGw τ (lt l) (lp l) (lc l) (lw l)).1 0 = τ.1 0 := by unfold aGw; rw [sI_k (by decide), sI_k (by decide), sI_k (by decide)]; rfl
  have e7 : (aGw τ (lt l) (lp l) (lc l) (lw l)).1 7 = τ.1 7 := by unfold aGw; rw [sI_k (by decide), sI_k (by decide), sI_k (by decide)]; rfl
  have e8 : ∀ k' p', (aGw τ (lt l) (lp l) (lc l) (lw l)).1 8 k' p' = if k' = lt l ∧ p' = lp l then 1 else τ.1 8 k' p' := fun k' p' => by simp [aGw, sI, sW]
  have e9 : ∀ k' p', (aGw τ (lt l) (lp l) (lc l) (lw l)).1 9 k' p' = if k' = lt l ∧ p' = lp l then nI (lt l) else τ.1 9 k' p' := fun k' p' => by simp [aGw, sI, sW]
  have e10 : ∀ k' p', (aGw τ (lt l) (lp l) (lc l) (lw l)).1 10 k' p' = if k' = lt l ∧ p' = lp l then (lc l &&& ((1 <<< (nI (lt l) &&& 31)) ^^^ (-1))) else τ.1 10 k' p' := fun k' p' => by simp [aGw, sI, sW]
  generalize aGw τ (lt l) (lp l) (lc l) (lw l) = t at e6 e0 e7 e8 e9 e10 ⊢
  have e8n : ∀ k' p', ¬ (k' = lt l ∧ p' = lp l) → t.1 8 k' p' = τ.1 8 k' p' := fun k' p' z => by rw [e8, if_neg z]
  refine I_call (pp := pp) ⟨⟨hN2, hN6', by rw [e0]; exact eN⟩, fun k' hk' => (hK k' hk').c e6, fun k' p' hk' hp' => ?_⟩ (hT.c e6) hf l3 l4 (by rw [pg_c e6]; exact l8) (by rw [wt_c e6, hw]; omega) (by rw [e8, if_pos ⟨rfl, rfl⟩]) (by rw [e6]; exact h66) (by rw [e6]; exact h60) (fun p' hp' hne => ?_) ?_ ?_ ?_ ?_ ?_ o6 (hC.c e6)
  · obtain ⟨y1, y2, y3, y4, y5⟩ := hPt k' p' hk' hp'
    unfold TyP gs
    rw [e7, e8, e9, e10]
    by_cases z : k' = lt l ∧ p' = lp l
    · rw [if_pos z, if_pos z, if_pos z, i_n (lt l) (by omega), z.1, z.2]
      exact ⟨by rw [z.1, z.2] at y1; exact y1, Or.inr rfl, ⟨rfl, l3⟩, fun _ => l3, bit_cl (by omega)⟩
    · rw [if_neg z, if_neg z, if_neg z]
      exact ⟨y1, y2, y3, y4, y5⟩
  · rcases hT.2.2.1 (lt l) p' hk hp' with z | z
    · exact z
    · exfalso
      exact hne (by rw [← z.2]; exact l8)
  · intro k' p' hk' hp' h8' hne hn
    rw [e7]
    rw [e8n k' p' hne] at h8'
    rw [wt_c e6, pg_c e6] at hn
    exact o1 k' p' hk' hp' h8' hn
  · intro k' hk' hw1
    rw [wt_c e6] at hw1
    rw [pg_c e6, e8n]
    · exact o2 k' hk' hw1
    · intro z
      rw [z.1, hw] at hw1
      omega
  · intro k1 k2 p' hk1 hk2 hp' a b
    by_cases z : p' = lp l
    · subst z
      rw [e8] at a b
      by_cases z1 : k1 = lt l
      · by_cases z2 : k2 = lt l
        · rw [z1, z2]
        · rw [if_neg (fun y => z2 y.1), hno k2 hk2] at b
          exact absurd b (by decide)
      · rw [if_neg (fun y => z1 y.1), hno k1 hk1] at a
        exact absurd a (by decide)
    · rw [e8n _ _ (fun y => z y.2)] at a b
      exact o3 k1 k2 p' hk1 hk2 hp' a b
  · intro k' hk' hw3
    rw [wt_c e6] at hw3
    rw [pg_c e6, e8n]
    · exact o4 k' hk' hw3
    · intro z
      rw [z.1, hw] at hw3
      omega
  · intro l' hl' hl4 k' hk'
    rw [e8n _ _ (fun z => hpw l' hl' hl4 z.2)]
    exact o5 l' hl' hl4 k' hk'
/-- letter 5 -/
theorem I_d5 {N : Nat} {τ : Sg} {A B : List Lt} {l : Lt} {qs : Qu} {pp : Nat} (h : Inv N (τ, A ++ l :: B, qs) pp []) (h5 : lk l = 5) : Inv N (aSend (aCd τ (lt l) (lp l) (lf l), A ++ B, qs) 6 (lt l) (lf l) (lp l) (-1) 0) pp [] := by
  have hm : l ∈ A ++ l :: B := List.mem_append.mpr (Or.inr List.mem_cons_self)
  have hl := h.2.1.1 l hm
  have ht : tid l = (lf l, lt l) := by unfold tid; rw [if_neg (by omega), if_pos h5]
  have hd := hl.dg.2.1.mpr (by omega)
  obtain ⟨l1, l2, l3, l4, l5, l6, l7, l8, l9, l10⟩ := hl
  rw [ht] at l8 hd
  have hN6 := h.1.1.2.1
  have hk : lt l < 6 := by omega
  have hk' : lf l < 6 := by omega
  have hfo := h.2.2.1.2.2.2.1 (lf l) hk' hd
  rw [show pg τ (lf l) = lp l from l8] at hfo
  have hne : lf l ≠ lt l := l9 (by omega)
  have hown : τ.1 8 (lt l) (lp l) = 0 := by
    rcases (h.1.2.2 (lt l) (lp l) hk l4).2.1 with z | z
    · exact z
    · exact absurd (h.2.2.1.2.2.1 (lf l) (lt l) (lp l) hk' hk l4 hfo z) hne
  have hpn := pw_ne h.2.1.2.1
  obtain ⟨hTy, hT, ⟨o1, o2, o3, o4, o5, o6⟩, hC⟩ := h
  simp only at hT o1 o2 o3 o4 o5 o6 hC
  -- the letter's place goes over to its answer
  have h1 : ∀ w, Inv N (τ, A ++ B ++ [(6, lt l, lf l, lp l, -1, 0, w)], qs) pp [] := fun w => by
    refine ⟨hTy, hT.rem.app (fun l' hl' => ?_) (List.pairwise_singleton _ _) (fun a ha b hb => ?_), ⟨o1, o2, o3, o4, fun l' hl' h4' => ?_, List.pairwise_append.mpr ⟨o6.sublist (ab_sub A B l), List.pairwise_singleton _ _, fun a _ b hb _ hb4 => ?_⟩⟩, fun k' hk'' hw => ?_⟩
    · rw [List.mem_singleton] at hl'
      rw [hl']
      refine ⟨?_, by show 5 ≤ 6; omega⟩
      unfold LW
      rw [tid_6]
      exact ⟨by show 1 ≤ 6 ∧ 6 ≤ 6; omega, l3, l2, l4, l2, l3, hd, l8, fun _ => Ne.symm hne, fun z => absurd z (by show ¬ 6 ≤ 2; omega)⟩
    · rw [List.mem_singleton] at hb
      rw [hb, tid_6, ← ht]
      exact hpn a ha
    · rcases List.mem_append.mp hl' with z | z
      · exact o5 l' ((ab_sub A B l).subset z) h4'
      · rw [List.mem_singleton] at z
        rw [z] at h4'
        exact absurd h4' (by show ¬ (6 : Nat) = 4; omega)
    · rw [List.mem_singleton] at hb
      rw [hb] at hb4
      exact absurd hb4 (by show ¬ (6 : Nat) = 4; omega)
    · have := hC k' hk'' hw
      show (A ++ B ++ _).countP (isTok k') = an τ k'
      rw [← this, List.countP_append, List.countP_append, List.countP_append, List.countP_singleton, List.countP_cons]
      have e : isTok k' (6, lt l, lf l, lp l, -1, 0, w) = isTok k' l := by
        unfold isTok
        rw [tid_6, ht, h5]
        show decide (5 ≤ 6 ∧ lf l = k') = decide (5 ≤ 5 ∧ lf l = k')
        simp
      rw [e]
      omega
  have h2 := h1 (lwd (aCd τ (lt l) (lp l) (lf l)) 6 (lt l) (lp l))
  show Inv N (aCnt (aCd τ (lt l) (lp l) (lf l)) 1, A ++ B ++ [(6, lt l, lf l, lp l, -1, 0, lwd (aCd τ (lt l) (lp l) (lf l)) 6 (lt l) (lp l))], qs) pp []
  refine Inv.c2 (τ := aCd τ (lt l) (lp l) (lf l)) ?_ (fun b hb => aCnt_k hb)
  generalize A ++ B ++ [(6, lt l, lf l, lp l, -1, 0, lwd (aCd τ (lt l) (lp l) (lf l)) 6 (lt l) (lp l))] = L at h2 ⊢
  have h3 : Inv N (sI (sI τ 7 (lt l) (lp l) 0) 9 (lt l) (lp l) (nI (lf l)), L, qs) pp [] := by
    refine I_pg (k := lt l) (p := lp l) (g := lf l) h2 (fun b _ h7 h9 => by rw [sI_k h9, sI_k h7]) (fun k' p' hne' => ?_) ?_ ?_ l2 hown
    · simp [sI, hne']
    · simp [sI]
    · simp [sI]
  unfold aCd
  simp only
  split
  · -- was called while it waits to read
    generalize sI (sI τ 7 (lt l) (lp l) 0) 9 (lt l) (lp l) (nI (lf l)) = t at h3 ⊢
    obtain ⟨⟨⟨hN2, hN6', eN⟩, hK, hPt⟩, hT, hO, hC⟩ := h3
    simp only at eN hK hPt hT hO hC
    have ew : wt (sI t 6 (lt l) 7 1) = wt t := by funext k'; unfold wt; simp [sI]
    have ep : pg (sI t 6 (lt l) 7 1) = pg t := by funext k'; unfold pg; simp [sI]
    have ed : wd (sI t 6 (lt l) 7 1) = wd t := by funext k'; unfold wd; simp [sI]
    have ea : an (sI t 6 (lt l) 7 1) = an t := by funext k'; unfold an; simp [sI]
    have eo : ∀ b, b ≠ 6 → (sI t 6 (lt l) 7 1).1 b = t.1 b := fun b hb => sI_k hb
    have ef : ∀ k' f, f ≠ 7 → (sI t 6 (lt l) 7 1).1 6 k' f = t.1 6 k' f := fun k' f hf => by simp [sI, hf]
    have e7 : ∀ k', (sI t 6 (lt l) 7 1).1 6 k' 7 = t.1 6 k' 7 ∨ (sI t 6 (lt l) 7 1).1 6 k' 7 = 1 := fun k' => by
      by_cases z : k' = lt l
      · right; simp [sI, z]
      · left; simp [sI, z]
    generalize sI t 6 (lt l) 7 1 = u at ew ep ed ea eo ef e7 ⊢
    refine ⟨⟨⟨hN2, hN6', by show u.1 0 0 3 = nI N; rw [eo 0 (by decide)]; exact eN⟩, fun k' hk' => ?_, fun k' p' hk' hp' => (hPt k' p' hk' hp').c (eo 7 (by decide)) (eo 8 (by decide)) (eo 9 (by decide)) (eo 10 (by decide))⟩, hT.c2 ew ep, ?_, ?_⟩
    · obtain ⟨y1, y2, y3, y4, y5, y6, y7, y8⟩ := hK k' hk'
      show TyK N u k'
      unfold TyK
      rw [ew, ep, ed, ea, ef k' 1 (by decide), ef k' 2 (by decide), ef k' 3 (by decide), ef k' 6 (by decide), ef k' 0 (by decide)]
      refine ⟨y1, y2, y3, y4, y5, y6, y7, ?_⟩
      rcases e7 k' with z | z
      · rw [z]; exact y8
      · rw [z]; exact Or.inr rfl
    · show IvO u L
      unfold IvO
      rw [ew, ep, eo 7 (by decide), eo 8 (by decide)]
      exact hO
    · show IvC u L
      unfold IvC
      rw [ew, ea]
      exact hC
  · exact h3
/-- letter 6 -/
theorem I_d6 {N : Nat} {τ : Sg} {A B : List Lt} {l : Lt} {qs : Qu} {pp : Nat} (h : Inv N (τ, A ++ l :: B, qs) pp []) (h6 : lk l = 6) : wt τ (lt l) = 3 ∧ (1 ≤ an τ (lt l) ∧ τ.1 6 (lt l) 6 - 1 = nI (an τ (lt l) - 1)) ∧ Inv N (sI τ 6 (lt l) 6 (τ.1 6 (lt l) 6 - 1), A ++ B, qs) pp [] := by
  have hm : l ∈ A ++ l :: B := List.mem_append.mpr (Or.inr List.mem_cons_self)
  have hl := h.2.1.1 l hm
  have ht : tid l = (lt l, lf l) := by unfold tid; rw [if_neg (by omega), if_neg (by omega), if_pos h6]
  have hd := hl.dg.2.1.mpr (by omega)
  obtain ⟨l1, l2, l3, l4, l5, l6, l7, l8, l9, l10⟩ := hl
  rw [ht] at hd
  have hN6 := h.1.1.2.1
  have hk : lt l < 6 := by omega
  obtain ⟨⟨⟨hN2, hN6', eN⟩, hK, hPt⟩, hT, ⟨o1, o2, o3, o4, o5, o6⟩, hC⟩ := h
  simp only at eN hK hPt hT o1 o2 o3 o4 o5 o6 hC
  obtain ⟨hK1, hK2, hK3, hK4, hK5, hK6, hK7, hK8⟩ := hK (lt l) hk
  have htok : isTok (lt l) l = true := by unfold isTok; rw [ht]; simp [h6]
  have hcnt := hC (lt l) hk hd
  rw [List.countP_append, List.countP_cons, htok] at hcnt
  simp only [if_true] at hcnt
  have h1 : 1 ≤ an τ (lt l) := by omega
  have hsub : τ.1 6 (lt l) 6 - 1 = nI (an τ (lt l) - 1) := by
    rw [hK4.1]
    have : nI (an τ (lt l)) = nI (an τ (lt l) - 1) + 1 := by rw [nI_p1]; congr 1; omega
    rw [this]
    simp
  refine ⟨hd, ⟨h1, hsub⟩, ?_⟩
  rw [hsub]
  have ew : wt (sI τ 6 (lt l) 6 (nI (an τ (lt l) - 1))) = wt τ := by funext k'; unfold wt; simp [sI]
  have ep : pg (sI τ 6 (lt l) 6 (nI (an τ (lt l) - 1))) = pg τ := by funext k'; unfold pg; simp [sI]
  have ed : wd (sI τ 6 (lt l) 6 (nI (an τ (lt l) - 1))) = wd τ := by funext k'; unfold wd; simp [sI]
  have ea : ∀ k', k' ≠ lt l → an (sI τ 6 (lt l) 6 (nI (an τ (lt l) - 1))) k' = an τ k' := fun k' hne => by unfold an; simp [sI, hne]
  have ek : (sI τ 6 (lt l) 6 (nI (an τ (lt l) - 1))).1 6 (lt l) 6 = nI (an τ (lt l) - 1) := by simp [sI]
  have eo : ∀ b, b ≠ 6 → (sI τ 6 (lt l) 6 (nI (an τ (lt l) - 1))).1 b = τ.1 b := fun b hb => sI_k hb
  have ef : ∀ k' f, f ≠ 6 → (sI τ 6 (lt l) 6 (nI (an τ (lt l) - 1))).1 6 k' f = τ.1 6 k' f := fun k' f hf => by simp [sI, hf]
  have e6 : ∀ k', k' ≠ lt l → (sI τ 6 (lt l) 6 (nI (an τ (lt l) - 1))).1 6 k' 6 = τ.1 6 k' 6 := fun k' hf => by simp [sI, hf]
  generalize sI τ 6 (lt l) 6 (nI (an τ (lt l) - 1)) = u at ew ep ed ea ek eo ef e6 ⊢
  have eak : an u (lt l) = an τ (lt l) - 1 := by unfold an; rw [ek]; exact i_n _ (by have := hK4.2; unfold an at this; omega)
  refine ⟨⟨⟨hN2, hN6', by show u.1 0 0 3 = nI N; rw [eo 0 (by decide)]; exact eN⟩, fun k' hk' => ?_, fun k' p' hk' hp' => (hPt k' p' hk' hp').c (eo 7 (by decide)) (eo 8 (by decide)) (eo 9 (by decide)) (eo 10 (by decide))⟩, hT.rem.c2 ew ep, ?_, ?_⟩
  · obtain ⟨y1, y2, y3, y4, y5, y6, y7, y8⟩ := hK k' hk'
    show TyK N u k'
    unfold TyK
    rw [ew, ep, ed, ef k' 1 (by decide), ef k' 2 (by decide), ef k' 3 (by decide), ef k' 0 (by decide), ef k' 7 (by decide)]
    refine ⟨y1, y2, y3, ?_, ?_, y6, y7, y8⟩
    · by_cases z : k' = lt l
      · subst z; rw [eak, ek]; exact ⟨rfl, by omega⟩
      · rw [ea k' z, e6 k' z]; exact y4
    · intro hn
      by_cases z : k' = lt l
      · rw [z] at hn; exact absurd hd hn
      · rw [ea k' z]; exact y5 hn
  · show IvO u (A ++ B)
    unfold IvO
    rw [ew, ep, eo 7 (by decide), eo 8 (by decide)]
    exact ⟨o1, o2, o3, o4, fun l' hl' => o5 l' ((ab_sub A B l).subset hl'), o6.sublist (ab_sub A B l)⟩
  · show IvC u (A ++ B)
    intro k' hk' hw
    rw [ew] at hw
    rw [List.countP_append]
    by_cases z : k' = lt l
    · subst z; rw [eak]; omega
    · rw [ea k' z]
      have := hC k' hk' hw
      rw [List.countP_append, List.countP_cons] at this
      have hz : isTok k' l = false := by unfold isTok; rw [ht]; simp [Ne.symm z]
      rw [hz] at this
      simpa using this
