/-! PURE: calls back, gifts, the row of letters -/
def aCb1 (cp : Int32) (k p to : Nat) (s : St) : St := if ((cp >>> (nI to &&& 31)) &&& 1) = 1 then (sI (aCnt (aSend s 5 k to p (-1) 0).1 5) 6 k 6 ((aCnt (aSend s 5 k to p (-1) 0).1 5).1 6 k 6 + 1), (aSend s 5 k to p (-1) 0).2.1, s.2.2) else s
def aCb (cp : Int32) (k p : Nat) : Nat → St → St
  | 0, s => s
  | n + 1, s => aCb1 cp k p n (aCb cp k p n s)
def aCall (s : St) (k p N : Nat) : St := aCb (s.1.1 10 k p) k p N (sI (sI s.1 10 k p 0) 6 k 1 3, s.2.1, s.2.2)
theorem aCb_len (cp : Int32) (k p : Nat) : ∀ (n : Nat) (s : St), (aCb cp k p n s).2.1.length ≤ s.2.1.length + n
  | 0, s => Nat.le_refl _
  | n + 1, s => by
    have := aCb_len cp k p n s
    unfold aCb aCb1
    split
    · simp [aSend]; omega
    · omega
theorem aCb_i (cp : Int32) (k p : Nat) : ∀ (n : Nat) (s : St) (a k' f : Nat), a ≠ 2 → ¬ (a = 6 ∧ k' = k ∧ f = 6) → (aCb cp k p n s).1.1 a k' f = s.1.1 a k' f
  | 0, s, a, k', f, _, _ => rfl
  | n + 1, s, a, k', f, h2, h6 => by
    have := aCb_i cp k p n s a k' f h2 h6
    unfold aCb aCb1
    split
    · simp only [aSend, aCnt, sI, h2, h6, false_and, if_false]
      exact this
    · exact this
theorem aCb_l (cp : Int32) (k p : Nat) : ∀ (n : Nat) (s : St), (aCb cp k p n s).1.2 = s.1.2
  | 0, s => rfl
  | n + 1, s => by
    have := aCb_l cp k p n s
    unfold aCb aCb1
    split
    · exact this
    · exact this
theorem aCb_q (cp : Int32) (k p : Nat) : ∀ (n : Nat) (s : St), (aCb cp k p n s).2.2 = s.2.2
  | 0, s => rfl
  | n + 1, s => by
    have := aCb_q cp k p n s
    unfold aCb aCb1
    split
    · exact this
    · exact this
theorem C_callBack {bq : Bool} {μ σ : Sg} {s : St} (h : RCs bq μ s σ) {k p w N : Nat} (hk : k < 6) (hT : TyH s.1 k p w) (hN : N ≤ 6) (eN : s.1.1 0 0 3 = nI N) (hn : s.2.1.length + N ≤ 31) (Q : Sg → Prop) (hQ : ∀ σ1, RCs bq μ (aCall s k p N) σ1 → Q σ1) : wp_X4_callBack σ k Q := by
  obtain ⟨hp, ep, hw, ew⟩ := hT
  unfold wp_X4_callBack
  rw [h.2.1.a6, ep, i_n p (by omega), h.2.1.a10]
  have hv : vp_in (nI p) 8 := vp_n (by omega) (by omega)
  refine ⟨hv, hv, ?_⟩
  intro σ2 e2 σ5 e5
  have h1 : RCs bq μ (sI (sI s.1 10 k p 0) 6 k 1 3, s.2.1, s.2.2) σ5 := by
    rw [e5, e2]
    exact (h.i (skN (by decide)) k p 0).i (skN (by decide)) k 1 3
  have L : ∀ (m to : Nat) (σ' : Sg), to + m = N → RCs bq μ (aCb (s.1.1 10 k p) k p to (sI (sI s.1 10 k p 0) 6 k 1 3, s.2.1, s.2.2)) σ' → lp_X4_callBack_33 k Q (m + 1) σ' (nI p) (s.1.1 10 k p) (nI to) := by
    intro m
    induction m with
    | zero =>
      intro to σ' hto hR
      rw [lp_X4_callBack_33]
      have hto : to = N := by omega
      subst hto
      refine ⟨fun _ => hQ σ' hR, fun c => absurd ?_ c⟩
      rw [hR.2.1.a0, aCb_i _ _ _ _ _ _ _ _ (by decide) (by simp)]
      show s.1.1 0 0 3 ≤ nI to
      rw [eN]
      exact nI_le (Nat.le_refl _) (by omega)
    | succ m ih =>
      intro to σ' hto hR
      rw [lp_X4_callBack_33]
      have hlen := aCb_len (s.1.1 10 k p) k p to (sI (sI s.1 10 k p 0) 6 k 1 3, s.2.1, s.2.2)
      simp only at hlen
      refine ⟨fun c => absurd c ?_, fun _ => ?_⟩
      · rw [hR.2.1.a0, aCb_i _ _ _ _ _ _ _ _ (by decide) (by simp)]
        show ¬ s.1.1 0 0 3 ≤ nI to
        rw [eN]
        exact nI_ge (by omega) (by omega)
      · rw [nI_p1]
        refine ⟨fun c => ?_, fun c => ?_⟩
        · rw [hR.2.2.1 k hk]
          refine C_send hR (by omega) 5 k to p _ (fun σ9 x hx => ?_)
          intro σ12 e12 σ14 e14
          refine ih (to + 1) σ14 (by omega) ?_
          show RCs bq μ (aCb1 _ k p to _) σ14
          unfold aCb1
          rw [if_pos c]
          rw [ixl5] at e12
          have h2 := hx.cnt 5
          rw [← e12] at h2
          have h3 := h2.i (skN (by decide) : sk 6) k 6 (σ12.1 6 k 6 + 1)
          rw [h2.2.2.1.a6] at h3
          rw [e14, h2.2.2.1.a6]
          refine (show HS bq μ _ _ _ _ x (5, k, to, p, -1, 0, lwd _ 5 k p) from ?_).done (fun hg => by have hz : 5 = 3 ∨ 5 = 4 := hg; omega)
          rw [lwd_n (by omega)]
          exact h3
        · refine ih (to + 1) σ' (by omega) ?_
          show RCs bq μ (aCb1 _ k p to _) σ'
          unfold aCb1
          rw [if_neg c]
          exact hR
  exact ⟨N + 1, L N 0 σ5 (by omega) h1⟩
theorem aFin_i {τ : Sg} {k : Nat} (a k' f : Nat) (h2 : a ≠ 2) (h6 : ¬ (a = 6 ∧ k' = k ∧ (f = 1 ∨ f = 8))) : (aFin τ k).1 a k' f = τ.1 a k' f := by
  have e1 : ¬ (a = 6 ∧ k' = k ∧ f = 1) := fun e => h6 ⟨e.1, e.2.1, Or.inl e.2.2⟩
  have e8 : ¬ (a = 6 ∧ k' = k ∧ f = 8) := fun e => h6 ⟨e.1, e.2.1, Or.inr e.2.2⟩
  unfold aFin
  simp only [aCnt, sI, sL, h2, e1, e8, false_and, if_false]
  split <;> rfl
theorem aFin_w {τ : Sg} {k : Nat} : (aFin τ k).1 6 k 1 = 0 := by
  unfold aFin
  simp [aCnt, sI]
def aFia (s : St) (k p : Nat) : St := if s.1.1 6 k 1 = 3 ∧ s.1.1 6 k 6 ≤ 0 then aGo (aFin (sI s.1 7 k p 2) k, s.2.1, s.2.2) k p else s
theorem C_fia {bq : Bool} {μ σ : Sg} {s : St} (h : RCs bq μ s σ) {k p w g : Nat} (hk : k < 6) (hT : TyH s.1 k p w) (hn : s.2.1.length + (s.2.2 k p).length ≤ 31) (hg : g < 6) (eg : s.1.1 9 k p = nI g) (he : ∀ e, e ∈ s.2.2 k p → (e.1 = 1 ∨ e.1 = 2) ∧ e.2 < 6) (Q : Sg → Prop) (hQ : ∀ σ1, RCs false μ (aFia s k p) σ1 → Q σ1) : wp_X4_finishIfAllAnswered σ k Q := by
  obtain ⟨hp, ep, hw, ew⟩ := id hT
  unfold wp_X4_finishIfAllAnswered
  rw [h.2.1.a6, ep, i_n p (by omega)]
  unfold aFia at hQ
  refine ⟨fun c3 => ⟨fun c0 => ⟨vp_n (by omega) (by omega), ?_⟩, fun c0 => ?_⟩, fun c3 => ?_⟩
  · rw [if_pos ⟨c3, c0⟩] at hQ
    intro σ3 e3
    have h1 := h.i (skN (by decide) : sk 7) k p 2
    rw [← e3] at h1
    refine C_finish h1 (p := p) (w := w) ⟨hp, ep, hw, ew⟩ _ (fun σ6 h6 => ?_)
    refine C_goOver (s := (aFin (sI s.1 7 k p 2) k, s.2.1, s.2.2)) h6 hk hp hn hg ?_ ?_ he _ hQ
    · show (aFin (sI s.1 7 k p 2) k).1 9 k p = nI g
      rw [aFin_i _ _ _ (by decide) (by simp)]
      exact eg
    · intro z
      have := z.1
      rw [show (aFin (sI s.1 7 k p 2) k, s.2.1, s.2.2).1.1 6 k 1 = 0 from aFin_w] at this
      rcases this with y | y <;> exact absurd y (by decide)
  · rw [if_neg (fun z => c0 z.2)] at hQ
    exact hQ σ h.weak
  · rw [if_neg (fun z => c3 z.1)] at hQ
    exact hQ σ h.weak
/-- GIVE READ comes -/
def aGr (τ : Sg) (k p fr : Nat) (wd : Nat → Int64) : Sg := aFin (sI (sI (sW τ k (p * 4) wd) 9 k p (nI fr)) 7 k p (if τ.1 6 k 7 = 0 then 1 else 0)) k
theorem C_givenToRead {bq : Bool} {μ τ σ : Sg} {ls : List Lt} {qs : Qu} (h : RC bq μ τ ls qs σ) {k x p w : Nat} {l : Lt} (hl : VL σ x l) (h3 : lk l = 3) (hlp : lp l < 8) (hT : TyH τ k p w) (Q : Sg → Prop) (hQ : ∀ σ1, RC bq μ (aGr τ k (lp l) (lf l) (lw l)) ls qs σ1 → Q σ1) : wp_X4_givenToRead σ k x Q := by
  obtain ⟨⟨v0, v1, v2, v3, v4, v5⟩, vw⟩ := hl
  unfold wp_X4_givenToRead
  have e4 : ix (σ.1 15 x 3 * 4) = lp l * 4 := by rw [v3, nI_lit4, i_n _ (by omega)]
  rw [e4, ixl0, ixl4, v3, i_n (lp l) (by omega)]
  have hv : vp_in (nI (lp l)) 8 := vp_n (by omega) (by omega)
  refine ⟨⟨by decide, by rw [nI_lit4]; exact nI_pos (by omega), by decide, by omega, by omega⟩, ?_⟩
  intro σ1 e1
  refine ⟨hv, ?_⟩
  intro σ3 e3
  have h1 := h.w (k := k) (dp := lp l * 4) (vw (Or.inl h3))
  rw [← e1] at h1
  have ef : σ1.1 15 x 1 = nI (lf l) := by rw [e1]; exact v1
  have h2 := h1.i (skN (by decide) : sk 9) k (lp l) (nI (lf l))
  rw [ef] at e3
  rw [← e3] at h2
  have ew : σ3.1 6 k 7 = τ.1 6 k 7 := by rw [h2.2.1.a6]; simp [sI, sW]
  rw [ew]
  unfold aGr at hQ
  refine ⟨fun c => ⟨hv, ?_⟩, fun c => ⟨hv, ?_⟩⟩
  · rw [if_pos c] at hQ
    intro σ7 e7
    have h3 := h2.i (skN (by decide) : sk 7) k (lp l) 1
    rw [← e7] at h3
    exact C_finish h3 (p := p) (w := w) hT _ (fun σ1 h9 => hQ σ1 h9)
  · rw [if_neg c] at hQ
    intro σ7 e7
    have h3 := h2.i (skN (by decide) : sk 7) k (lp l) 0
    rw [← e7] at h3
    exact C_finish h3 (p := p) (w := w) hT _ (fun σ1 h9 => hQ σ1 h9)
/-- GIVE WRITE comes: up to the calls -/
def aGw (τ : Sg) (k p : Nat) (cp : Int32) (wd : Nat → Int64) : Sg := sI (sI (sI (sW τ k (p * 4) wd) 10 k p (cp &&& ((1 <<< (nI k &&& 31)) ^^^ (-1)))) 8 k p 1) 9 k p (nI k)
theorem C_givenToWrite {bq : Bool} {μ τ σ : Sg} {ls : List Lt} {qs : Qu} (h : RC bq μ τ ls qs σ) {k x w N : Nat} (hk : k < 6) {l : Lt} (hl : VL σ x l) (h4 : lk l = 4) (hT : TyH τ k (lp l) w) (hN : N ≤ 6) (eN : τ.1 0 0 3 = nI N) (hn : ls.length + N ≤ 31) (Q : Sg → Prop) (hQ : ∀ σ1, RCs bq μ (aCall (aGw τ k (lp l) (lc l) (lw l), ls, qs) k (lp l) N) σ1 → Q σ1) : wp_X4_givenToWrite σ k x Q := by
  obtain ⟨⟨v0, v1, v2, v3, v4, v5⟩, vw⟩ := hl
  have hlp := hT.1
  unfold wp_X4_givenToWrite
  have e4 : ix (σ.1 15 x 3 * 4) = lp l * 4 := by rw [v3, nI_lit4, i_n _ (by omega)]
  rw [e4, ixl0, ixl4, v3, i_n (lp l) (by omega)]
  have hv : vp_in (nI (lp l)) 8 := vp_n (by omega) (by omega)
  refine ⟨⟨by decide, by rw [nI_lit4]; exact nI_pos (by omega), by decide, by omega, by omega⟩, ?_⟩
  intro σ1 e1
  refine ⟨hv, ?_⟩
  intro σ3 e3
  refine ⟨hv, ?_⟩
  intro σ6 e6
  refine ⟨hv, ?_⟩
  intro σ9 e9
  have h1 := h.w (k := k) (dp := lp l * 4) (vw (Or.inr h4))
  rw [← e1] at h1
  have ec : σ1.1 15 x 5 = lc l := by rw [e1]; exact v5
  rw [ec, h1.2.2.1 k hk] at e3
  have h2 := h1.i (skN (by decide) : sk 10) k (lp l) (lc l &&& ((1 <<< (nI k &&& 31)) ^^^ (-1)))
  rw [← e3] at h2
  have h3 := h2.i (skN (by decide) : sk 8) k (lp l) 1
  rw [← e6] at h3
  have h5 := h3.i (skN (by decide) : sk 9) k (lp l) (nI k)
  rw [h3.2.2.1 k hk] at e9
  rw [← e9] at h5
  exact C_callBack (s := (aGw τ k (lp l) (lc l) (lw l), ls, qs)) h5 hk (p := lp l) (w := w) hT hN eN hn _ hQ
/-- CALL comes -/
def aCd (τ : Sg) (k p fr : Nat) : Sg := let t := sI (sI τ 7 k p 0) 9 k p (nI fr); if τ.1 6 k 1 = 1 ∧ τ.1 6 k 2 = nI p then sI t 6 k 7 1 else t
theorem C_calledBack {bq : Bool} {μ τ σ : Sg} {ls : List Lt} {qs : Qu} (h : RC bq μ τ ls qs σ) {k p fr : Nat} (hk : k < 6) (hp : p < 8) (hn : ls.length ≤ 30) (Q : Sg → Prop) (hQ : ∀ σ1, RCs bq μ (aSend (aCd τ k p fr, ls, qs) 6 k fr p (-1) 0) σ1 → Q σ1) : wp_X4_calledBack σ k (nI p) (nI fr) Q := by
  have hv : vp_in (nI p) 8 := vp_n (by omega) (by omega)
  have fin : ∀ {τ' σ' : Sg}, RC bq μ τ' ls qs σ' → τ' = aCd τ k p fr → wp_X4_send σ' 6 (σ'.1 5 k 0) (nI fr) (nI p) (fun σ11 _ => Q σ11) := by
    intro τ' σ' h' e
    rw [h'.2.2.1 k hk]
    refine C_send h' hn 6 k fr p _ (fun σ1 x hx => hQ σ1 ?_)
    subst e
    refine (show HS bq μ _ ls qs σ1 x (6, k, fr, p, -1, 0, lwd _ 6 k p) from ?_).done (fun hg => by have hz : 6 = 3 ∨ 6 = 4 := hg; omega)
    rw [lwd_n (by omega)]
    exact hx
  unfold wp_X4_calledBack
  rw [i_n p (by omega)]
  refine ⟨hv, ?_⟩
  intro σ1 e1
  refine ⟨hv, ?_⟩
  intro σ4 e4
  have h1 := (h.i (skN (by decide) : sk 7) k p 0).i (skN (by decide) : sk 9) k p (nI fr)
  rw [← e1, ← e4] at h1
  have e6 : σ4.1 6 = τ.1 6 := by rw [h1.2.1.a6]; funext a b; simp [sI]
  refine C_awaits (fun c => ?_) (fun c => ?_)
  · refine ⟨fun c0 => absurd c0 (by decide), fun _ => ?_⟩
    intro σ14 e14
    have h2 := h1.i (skN (by decide) : sk 6) k 7 1
    rw [← e14] at h2
    rw [e6] at c
    exact fin h2 (by unfold aCd; simp only [if_pos c])
  · refine ⟨fun _ => ?_, fun c0 => absurd rfl c0⟩
    rw [e6] at c
    exact fin h1 (by unfold aCd; simp only [if_neg c])
/-- letter i is taken out of the row -/
theorem C_takeOut {μ τ σ : Sg} {ls : List Lt} {qs : Qu} (h : RC false μ τ ls qs σ) {i : Nat} {l : Lt} (hi : ls[i]? = some l) (Q : Sg → Nat → Prop) (hQ : ∀ σ1 x, RC false σ1 τ (ls.eraseIdx i) qs σ1 → EqM false μ σ1 → σ1.2.2 31 = x → VL σ1 x l → Q σ1 x) : wp_X2_takeOut σ (nI i) Q := by
  obtain ⟨h1, h2, h3, h4, h5, h6⟩ := h
  have hil := (List.getElem?_eq_some_iff.mp hi).1
  have hlen := h5.1
  unfold wp_X2_takeOut
  rw [i_n i (by omega)]
  have hx : σ.2.2 i < 32 := h4.2.1 i (by omega)
  refine ⟨vp_n (by omega) (by omega), hx, ?_⟩
  generalize hxe : σ.2.2 i = x at hx
  -- the row when the places below y have moved up
  have L : ∀ (n y : Nat) (σ' : Sg), i ≤ y → y ≤ 31 → 31 < y + n → σ'.1 = σ.1 → σ'.2.1 = σ.2.1 → (∀ j, σ'.2.2 j = if j < i then σ.2.2 j else if j < y then σ.2.2 (j + 1) else σ.2.2 j) → lp_X2_takeOut_9 (nI i) Q n σ' x (nI y) := by
    intro n
    induction n with
    | zero => intro y σ' _ h31 hn; omega
    | succ n ih =>
      intro y σ' hiy h31 hn ei el er
      rw [lp_X2_takeOut_9, nI_p1]
      refine ⟨fun c => ?_, fun c => ?_⟩
      · have hy : y = 31 := by
          have := (nI_leI (a := 32) (b := y + 1) (by omega) (by omega)).mp c
          omega
        subst hy
        rw [ixl31]
        intro σ4 e4 σ6 e6
        have e4i : σ4.1 = σ.1 := by rw [e4]; exact ei
        have hfl : σ4.1 3 0 1 - 1 = nI (ls.length - 1) := by
          rw [e4i, h5.2.1]
          rw [show ls.length = (ls.length - 1) + 1 by omega]
          exact nI_pred _
        have e6l : σ6.2.1 = σ.2.1 := by rw [e6, e4]; exact el
        have e6r : ∀ j, σ6.2.2 j = if j = 31 then x else if j < i then σ.2.2 j else if j < 31 then σ.2.2 (j + 1) else σ.2.2 j := by
          intro j
          rw [e6, e4]
          show (if j = 31 then x else σ'.2.2 j) = _
          rw [er]
        have e6k : ∀ a, a ≠ 3 → σ6.1 a = σ.1 a := by
          intro a ha
          rw [e6]
          funext b c
          have : ¬ (a = 3 ∧ b = 0 ∧ c = 1) := fun e => ha e.1
          simp [sI, this, e4i]
        have e63 : σ6.1 3 0 1 = nI (ls.length - 1) := by rw [e6, hfl]; simp [sI]
        have vlk : ∀ {y : Nat} {l' : Lt}, VL σ y l' → VL σ6 y l' := by
          intro y l' hv
          unfold VL at hv ⊢
          rw [e6k 15 (by decide), e6l]
          exact hv
        refine hQ σ6 x ⟨fun _ _ => ⟨rfl, rfl⟩, ?_, ?_, ⟨⟨rfl, rfl⟩, ?_, ?_⟩, ⟨?_, ?_, ?_⟩, ?_⟩ ?_ ?_ ?_
        · intro a ha
          have hne : a ≠ 3 := by unfold sk at ha; omega
          rw [e6k a hne, e6l]
          exact h2 a ha
        · intro k hk
          rw [e6k 5 (by decide)]
          exact h3 k hk
        · intro j hj
          rw [e6r]
          split
          · exact hx
          · split
            · exact h4.2.1 j hj
            · split
              · exact h4.2.1 (j + 1) (by omega)
              · exact h4.2.1 j hj
        · intro a b ha hb hab
          rw [e6r, e6r] at hab
          have inj := h4.2.2
          by_cases a31 : a = 31 <;> by_cases b31 : b = 31
          · omega
          · exfalso
            rw [if_pos a31, if_neg b31, ← hxe] at hab
            by_cases bi : b < i
            · rw [if_pos bi] at hab
              have := inj i b (by omega) (by omega) hab
              omega
            · rw [if_neg bi, if_pos (show b < 31 by omega)] at hab
              have := inj i (b + 1) (by omega) (by omega) hab
              omega
          · exfalso
            rw [if_neg a31, if_pos b31, ← hxe] at hab
            by_cases ai : a < i
            · rw [if_pos ai] at hab
              have := inj a i (by omega) (by omega) hab
              omega
            · rw [if_neg ai, if_pos (show a < 31 by omega)] at hab
              have := inj (a + 1) i (by omega) (by omega) hab
              omega
          · rw [if_neg a31, if_neg b31] at hab
            by_cases ai : a < i <;> by_cases bi : b < i
            · rw [if_pos ai, if_pos bi] at hab
              exact inj a b ha hb hab
            · rw [if_pos ai, if_neg bi, if_pos (show b < 31 by omega)] at hab
              have := inj a (b + 1) ha (by omega) hab
              omega
            · rw [if_neg ai, if_pos (show a < 31 by omega), if_pos bi] at hab
              have := inj (a + 1) b (by omega) hb hab
              omega
            · rw [if_neg ai, if_pos (show a < 31 by omega), if_neg bi, if_pos (show b < 31 by omega)] at hab
              have := inj (a + 1) (b + 1) (by omega) (by omega) hab
              omega
        · rw [List.length_eraseIdx_of_lt hil]; omega
        · rw [List.length_eraseIdx_of_lt hil]; exact e63
        · intro j l' hj
          rw [List.getElem?_eraseIdx] at hj
          rw [e6r]
          split at hj
          · rename_i hji
            have hjl := (List.getElem?_eq_some_iff.mp hj).1
            rw [if_neg (by omega), if_pos hji]
            exact vlk (h5.2.2 j l' hj)
          · rename_i hji
            have hjl := (List.getElem?_eq_some_iff.mp hj).1
            rw [if_neg (by omega), if_neg hji, if_pos (by omega)]
            exact vlk (h5.2.2 (j + 1) l' hj)
        · intro k p hk hp
          rw [e6k 12 (by decide), e6k 13 (by decide), e6k 14 (by decide)]
          exact h6 k p hk hp
        · intro a ha
          rcases ha with ha | ha
          · rw [e6k a (by omega), e6l]
            exact h1 a (Or.inl ha)
          · cases ha.1
        · rw [e6r]; simp
        · have := vlk (h5.2.2 i l hi)
          rw [hxe] at this
          exact this
      · have hy : y < 31 := by
          rcases Nat.lt_or_ge y 31 with z | z
          · exact z
          · exact absurd (nI_le (a := 32) (b := y + 1) (by omega) (by omega)) c
        rw [i_n (y + 1) (by omega), i_n y (by omega)]
        have er1 : σ'.2.2 (y + 1) = σ.2.2 (y + 1) := by rw [er, if_neg (by omega), if_neg (by omega)]
        refine ⟨vp_n (by omega) (by omega), by rw [er1]; exact h4.2.1 _ (by omega), vp_n (by omega) (by omega), ?_⟩
        intro σ10 e10
        refine ih (y + 1) σ10 (by omega) (by omega) (by omega) (by rw [e10]; exact ei) (by rw [e10]; exact el) (fun j => ?_)
        rw [e10]
        show (if j = y then σ'.2.2 (y + 1) else σ'.2.2 j) = _
        by_cases hj : j = y
        · subst hj
          rw [if_pos rfl, er1, if_neg (by omega), if_pos (by omega)]
        · rw [if_neg hj, er]
          by_cases h8 : j < i
          · rw [if_pos h8, if_pos h8]
          · rw [if_neg h8, if_neg h8]
            by_cases h9 : j < y
            · rw [if_pos h9, if_pos (by omega)]
            · rw [if_neg h9, if_neg (by omega)]
  refine ⟨33, L 33 i σ (Nat.le_refl _) (by omega) (by omega) rfl rfl (fun j => ?_)⟩
  by_cases h8 : j < i
  · rw [if_pos h8]
  · rw [if_neg h8]
    split <;> first | omega | rfl
