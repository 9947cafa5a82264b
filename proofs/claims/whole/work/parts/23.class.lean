/-! PURE: what the class's methods do to the abstract state -/
def uQ (qs : Qu) (k p : Nat) (q : List (Nat × Nat)) : Qu := fun k' p' => if k' = k ∧ p' = p then q else qs k' p'
abbrev St : Type := Sg × List Lt × Qu
/-- page and word of what is at hand are in range -/
def TyH (τ : Sg) (k p w : Nat) : Prop := p < 8 ∧ τ.1 6 k 2 = nI p ∧ w < 4 ∧ τ.1 6 k 3 = nI w
def aFin (τ : Sg) (k : Nat) : Sg :=
  let i := ix (τ.1 6 k 2) * 4 + ix (τ.1 6 k 3)
  let τ1 := if τ.1 6 k 4 = 0 then τ else sL τ 11 k i (τ.2.1 6 k 5)
  let τ2 := sL τ1 6 k 9 (τ1.2.1 11 k i)
  let τ3 := sI τ2 6 k 1 0
  aCnt (sI τ3 6 k 8 (τ3.1 6 k 8 + 1)) 6
theorem RC.cnt {bq : Bool} {μ τ σ : Sg} {ls : List Lt} {qs : Qu} (h : RC bq μ τ ls qs σ) (c : Nat) : RC bq μ (aCnt τ c) ls qs (sI σ 2 0 c (σ.1 2 0 c + 1)) := by
  unfold aCnt
  rw [← h.2.1.a2]
  exact h.i sk2 0 c _
theorem HS.cnt {bq : Bool} {μ τ σ : Sg} {ls : List Lt} {qs : Qu} {x : Nat} {l : Lt} (h : HS bq μ τ ls qs σ x l) (c : Nat) : HS bq μ (aCnt τ c) ls qs (sI σ 2 0 c (σ.1 2 0 c + 1)) x l := by
  unfold aCnt
  rw [← h.2.2.1.a2]
  exact h.i sk2 0 c _
theorem C_finish {bq : Bool} {μ τ σ : Sg} {ls : List Lt} {qs : Qu} (h : RC bq μ τ ls qs σ) {k p w : Nat} (hT : TyH τ k p w) (Q : Sg → Prop) (hQ : ∀ σ1, RC bq μ (aFin τ k) ls qs σ1 → Q σ1) : wp_X4_finish σ k Q := by
  obtain ⟨hp, ep, hw, ew⟩ := hT
  have hi : ix (τ.1 6 k 2) * 4 + ix (τ.1 6 k 3) = p * 4 + w := by rw [ep, ew, i_n p (by omega), i_n w (by omega)]
  have e6 := h.2.1.a6
  have hix : ix (σ.1 6 k 2 * 4 + σ.1 6 k 3) = p * 4 + w := by
    rw [e6, ep, ew, nI_lit4, nI_add, i_n _ (by omega)]
  have hvp : vp_in (σ.1 6 k 2 * 4 + σ.1 6 k 3) 32 := by
    rw [e6, ep, ew, nI_lit4, nI_add]
    exact vp_n (by omega) (by omega)
  unfold wp_X4_finish wp_X3_doWhatIsAtHand
  rw [hix]
  refine ⟨fun c => ⟨hvp, ?_⟩, fun c => ⟨hvp, ?_⟩⟩
  · intro σ3 e3 σ5 e5 σ7 e7 σ4 e4
    refine hQ σ4 ?_
    rw [ixl6] at e4
    unfold aFin
    rw [hi]
    rw [e6] at c
    simp only [if_pos c]
    rw [e4, e7, e5, e3]
    have h1 := h.l (skN (by decide) : sk 6) k 9 (σ.2.1 11 k (p * 4 + w))
    rw [h.2.1.l11] at h1
    have h2 := h1.i (skN (by decide) : sk 6) k 1 0
    have h3 := h2.i (skN (by decide) : sk 6) k 8 ((sI (sL σ 6 k 9 (τ.2.1 11 k (p * 4 + w))) 6 k 1 0).1 6 k 8 + 1)
    have h4 := h3.cnt 6
    rw [h2.2.1.a6] at h4
    rw [h.2.1.l11, h2.2.1.a6]
    exact h4
  · intro σ9 e9
    refine ⟨hvp, ?_⟩
    intro σ13 e13 σ15 e15 σ17 e17 σ4 e4
    refine hQ σ4 ?_
    rw [ixl6] at e4
    unfold aFin
    rw [hi]
    rw [e6] at c
    simp only [if_neg c]
    rw [e4, e17, e15, e13, e9]
    have h0 := h.l (skN (by decide) : sk 11) k (p * 4 + w) (σ.2.1 6 k 5)
    rw [h.2.1.l6] at h0
    have h1 := h0.l (skN (by decide) : sk 6) k 9 ((sL σ 11 k (p * 4 + w) (τ.2.1 6 k 5)).2.1 11 k (p * 4 + w))
    rw [h0.2.1.l11] at h1
    have h2 := h1.i (skN (by decide) : sk 6) k 1 0
    have h3 := h2.i (skN (by decide) : sk 6) k 8 ((sI (sL (sL σ 11 k (p * 4 + w) (τ.2.1 6 k 5)) 6 k 9 ((sL τ 11 k (p * 4 + w) (τ.2.1 6 k 5)).2.1 11 k (p * 4 + w))) 6 k 1 0).1 6 k 8 + 1)
    have h4 := h3.cnt 6
    rw [h2.2.1.a6] at h4
    rw [h.2.1.l6, h0.2.1.l11, h2.2.1.a6]
    exact h4
def aTake (τ : Sg) (k : Nat) (x1 x2 x3 : Int32) (x4 : Int64) : Sg := sI (sI (sL (sI (sI (sI (sI τ 6 k 0 1) 6 k 2 x1) 6 k 3 x2) 6 k 4 x3) 6 k 5 x4) 6 k 6 0) 6 k 7 0
theorem C_take {bq : Bool} {μ τ σ : Sg} {ls : List Lt} {qs : Qu} (h : RC bq μ τ ls qs σ) {k : Nat} {x1 x2 x3 : Int32} {x4 : Int64} (hz : x3 = 0 ∨ x3 = 1) (Q : Sg → Prop) (hQ : ∀ σ1, RC bq μ (aTake τ k x1 x2 x3 x4) ls qs σ1 → Q σ1) : wp_X0_take σ k x1 x2 x3 x4 Q := by
  unfold wp_X0_take
  intro σ1 e1 σ3 e3 σ5 e5
  refine ⟨hz, ?_⟩
  intro σ7 e7 σ10 e10 σ12 e12 σ14 e14
  refine hQ σ14 ?_
  rw [e14, e12, e10, e7, e5, e3, e1]
  have s6 : sk 6 := skN (by decide)
  exact ((((((h.i s6 k 0 1).i s6 k 2 x1).i s6 k 3 x2).i s6 k 4 x3).l s6 k 5 x4).i s6 k 6 0).i s6 k 7 0
/-- the words that go with a letter -/
def lwd (τ : Sg) (kd fr pg : Nat) : Nat → Int64 := if kd = 3 ∨ kd = 4 then fun w => τ.2.1 11 fr (pg * 4 + w) else fun _ => 0
theorem lwd_n {τ : Sg} {kd fr pg : Nat} (h : ¬ (kd = 3 ∨ kd = 4)) : lwd τ kd fr pg = fun _ => 0 := if_neg h
/-- a letter is sent -/
def aSend (s : St) (kd fr to pg : Nat) (nd cp : Int32) : St := (aCnt s.1 1, s.2.1 ++ [(kd, fr, to, pg, nd, cp, lwd s.1 kd fr pg)], s.2.2)
theorem C_ask {bq : Bool} {μ τ σ : Sg} {ls : List Lt} {qs : Qu} (h : RC bq μ τ ls qs σ) (hn : ls.length ≤ 30) {k p w g kd : Nat} {x3 : Int32} (hk : k < 6) (hT : TyH τ k p w) (hg : τ.1 9 k p = nI g) (hkd : kd = 1 ∨ kd = 2) (Q : Sg → Prop) (hQ : ∀ σ1, RC bq μ (aSend (sI τ 6 k 1 x3, ls, qs) kd k g p (nI k) 0).1 (aSend (sI τ 6 k 1 x3, ls, qs) kd k g p (nI k) 0).2.1 qs σ1 → Q σ1) : wp_X4_ask σ k (nI kd) x3 Q := by
  obtain ⟨hp, ep, hw, ew⟩ := hT
  unfold wp_X4_ask
  intro σ1 e1
  have h1 := h.i (skN (by decide) : sk 6) k 1 x3
  rw [← e1] at h1
  rw [h.2.1.a6, ep]
  refine ⟨vp_n (by omega) (by omega), ?_⟩
  rw [h1.2.2.1 k hk, i_n p (by omega), h1.2.1.a9, show (sI τ 6 k 1 x3).1 9 k p = nI g from hg]
  refine C_send h1 hn kd k g p _ (fun σ4 x hx => ?_)
  intro σ7 e7
  refine hQ σ7 ?_
  rw [e7, hx.2.2.2.1 k hk]
  have h2 := hx.node (nI k)
  show RC bq μ (aCnt (sI τ 6 k 1 x3) 1) (ls ++ [(kd, k, g, p, nI k, 0, lwd (sI τ 6 k 1 x3) kd k p)]) qs _
  rw [lwd_n (by omega)]
  exact h2.done (fun hg => by have hz : kd = 3 ∨ kd = 4 := hg; omega)
theorem C_sendOn {bq : Bool} {μ τ σ : Sg} {ls : List Lt} {qs : Qu} (h : RC bq μ τ ls qs σ) (hn : ls.length ≤ 30) {k p g kd : Nat} {a : Int32} (hk : k < 6) (hp : p < 8) (hg : τ.1 9 k p = nI g) (hkd : kd = 1 ∨ kd = 2) (Q : Sg → Prop) (hQ : ∀ σ1, RC bq μ (let t := aCnt (aCnt τ 1) 2; if kd = 2 then sI t 9 k p a else t) (ls ++ [(kd, k, g, p, a, 0, lwd τ kd k p)]) qs σ1 → Q σ1) : wp_X4_sendOn σ k (nI kd) (nI p) a Q := by
  unfold wp_X4_sendOn
  refine ⟨vp_n (by omega) (by omega), ?_⟩
  rw [h.2.2.1 k hk, i_n p (by omega), h.2.1.a9, hg]
  refine C_send h hn kd k g p _ (fun σ2 x hx => ?_)
  intro σ5 e5 σ7 e7
  have h2 := ((hx.node a).cnt 2)
  rw [← e5] at h2
  rw [ixl2] at e7
  rw [← e7] at h2
  have h3 : RC bq μ (aCnt (aCnt τ 1) 2) (ls ++ [(kd, k, g, p, a, 0, lwd τ kd k p)]) qs σ7 := by
    rw [lwd_n (by omega)]
    exact h2.done (fun hg => by have hz : kd = 3 ∨ kd = 4 := hg; omega)
  refine ⟨fun c => ⟨vp_n (by omega) (by omega), ?_⟩, fun c => ?_⟩
  · have hk2 : kd = 2 := nI_inj (by omega) (by omega) c
    intro σ10 e10
    refine hQ σ10 ?_
    simp only [if_pos hk2]
    rw [e10]
    exact h3.i (skN (by decide)) k p a
  · have hk2 : kd ≠ 2 := fun e => c (by rw [e]; rfl)
    refine hQ σ7 ?_
    simp only [if_neg hk2]
    exact h3
theorem C_giveToRead {bq : Bool} {μ τ σ : Sg} {ls : List Lt} {qs : Qu} (h : RC bq μ τ ls qs σ) (hn : ls.length ≤ 30) {k p a : Nat} (hk : k < 6) (hp : p < 8) (Q : Sg → Prop) (hQ : ∀ σ1, RC bq μ (aCnt (aCnt (sI (sI τ 10 k p (τ.1 10 k p ||| (1 <<< (nI a &&& 31)))) 7 k p 1) 1) 3) (ls ++ [(3, k, a, p, -1, 0, lwd τ 3 k p)]) qs σ1 → Q σ1) : wp_X4_giveToRead σ k (nI p) (nI a) Q := by
  have ip := i_n p (by omega)
  unfold wp_X4_giveToRead
  refine ⟨vp_n (by omega) (by omega), vp_n (by omega) (by omega), ?_⟩
  rw [ip]
  intro σ2 e2
  refine ⟨vp_n (by omega) (by omega), ?_⟩
  intro σ5 e5
  have h1 := (h.i (skN (by decide) : sk 10) k p (σ.1 10 k p ||| (1 <<< (nI a &&& 31)))).i (skN (by decide) : sk 7) k p 1
  rw [← e2, ← e5, h.2.1.a10] at h1
  rw [h1.2.2.1 k hk]
  refine C_send h1 hn 3 k a p _ (fun σ8 x hx => ?_)
  have e4 : ix (nI p * 4) = p * 4 := by rw [nI_lit4, i_n _ (by omega)]
  rw [e4, ixl0, ixl4, ixl3]
  refine ⟨⟨by rw [nI_lit4]; exact nI_pos (by omega), by decide, by decide, by omega, by omega⟩, ?_⟩
  intro σ11 e11 σ13 e13
  refine hQ σ13 ?_
  have h2 := (hx.words k (p * 4)).cnt 3
  rw [← e11] at h2
  rw [← e13] at h2
  refine (show HS bq μ _ ls qs σ13 x (3, k, a, p, -1, 0, lwd τ 3 k p) from h2).done (fun _ w hw => ?_)
  rw [e13, e11]
  show (sC σ8 11 k (p * 4) 16 x 0 4).2.1 16 x w = _
  rw [sC_words k (p * 4) x w hw, hx.2.2.1.l11]
  simp [lwd, aCnt, sI]
theorem C_giveToWrite {bq : Bool} {μ τ σ : Sg} {ls : List Lt} {qs : Qu} (h : RC bq μ τ ls qs σ) (hn : ls.length ≤ 30) {k p a : Nat} (hk : k < 6) (hp : p < 8) (Q : Sg → Prop) (hQ : ∀ σ1, RC bq μ (sI (sI (sI (sI (aCnt (aCnt τ 1) 4) 10 k p 0) 8 k p 0) 7 k p 0) 9 k p (nI a)) (ls ++ [(4, k, a, p, -1, τ.1 10 k p, lwd τ 4 k p)]) qs σ1 → Q σ1) : wp_X4_giveToWrite σ k (nI p) (nI a) Q := by
  have ip := i_n p (by omega)
  have hv : vp_in (nI p) 8 := vp_n (by omega) (by omega)
  unfold wp_X4_giveToWrite
  rw [h.2.2.1 k hk]
  refine C_send h hn 4 k a p _ (fun σ1 x hx => ?_)
  have e4 : ix (nI p * 4) = p * 4 := by rw [nI_lit4, i_n _ (by omega)]
  rw [e4, ixl0, ixl4, ip]
  refine ⟨⟨by rw [nI_lit4]; exact nI_pos (by omega), by decide, by decide, by omega, by omega⟩, ?_⟩
  intro σ4 e4'
  refine ⟨hv, ?_⟩
  intro σ7 e7 σ9 e9
  refine ⟨hv, fun σ11 e11 => ⟨hv, fun σ14 e14 => ⟨hv, fun σ17 e17 => ⟨hv, fun σ20 e20 => ?_⟩⟩⟩⟩
  refine hQ σ20 ?_
  have hw := hx.words k (p * 4)
  rw [← e4'] at hw
  have h2 := (hw.cop (σ4.1 10 k p))
  rw [← e7] at h2
  have h3 := h2.cnt 4
  rw [← e9] at h3
  have h4 := h3.i (skN (by decide) : sk 10) k p 0
  have h5 := h4.i (skN (by decide) : sk 8) k p 0
  have h6 := h5.i (skN (by decide) : sk 7) k p 0
  have h7 := h6.i (skN (by decide) : sk 9) k p (nI a)
  rw [← e11, ← e14, ← e17, ← e20] at h7
  have ec : σ4.1 10 k p = τ.1 10 k p := by
    rw [hw.2.2.1.a10]
    simp [aCnt, sI]
  rw [ec] at h7
  refine (show HS bq μ _ ls qs σ20 x (4, k, a, p, -1, τ.1 10 k p, lwd τ 4 k p) from h7).done (fun _ w hw => ?_)
  rw [e20, e17, e14, e11, e9, e7, e4']
  show (sC σ1 11 k (p * 4) 16 x 0 4).2.1 16 x w = _
  rw [sC_words k (p * 4) x w hw, hx.2.2.1.l11]
  simp [lwd, aCnt, sI]
theorem C_putInQueue {bq : Bool} {μ τ σ : Sg} {ls : List Lt} {qs : Qu} (h : RC bq μ τ ls qs σ) {k p kd a : Nat} (hk : k < 6) (hp : p < 8) (hl : (qs k p).length ≤ 5) (Q : Sg → Prop) (hQ : ∀ σ1, RC false μ τ ls (uQ qs k p (qs k p ++ [(kd, a)])) σ1 → Q σ1) : wp_X3_putInQueue σ k (nI kd) (nI p) (nI a) Q := by
  obtain ⟨h1, h2, h3, h4, h5, h6⟩ := h
  obtain ⟨q1, q2, q3⟩ := h6 k p hk hp
  have ip := i_n p (by omega)
  have hv : vp_in (nI p) 8 := vp_n (by omega) (by omega)
  have hix : nI p * 6 + nI (qs k p).length = nI (p * 6 + (qs k p).length) := by rw [nI_lit6, nI_add]
  unfold wp_X3_putInQueue
  rw [ip, q2, hix, i_n (p * 6 + (qs k p).length) (by omega)]
  have hvp : vp_in (nI (p * 6 + (qs k p).length)) 48 := vp_n (by omega) (by omega)
  refine ⟨hv, fun _ => ⟨hv, hvp, ?_⟩, fun c => absurd (nI_lt (b := 6) (by omega) (by omega)) c⟩
  intro σ4 e4
  refine ⟨hvp, ?_⟩
  intro σ7 e7
  refine ⟨hv, hv, ?_⟩
  intro σ11 e11
  refine hQ σ11 ⟨?_, ?_, ?_, ?_, ?_, ?_⟩
  · intro b hb
    have hb20 : 20 ≤ b := by
      rcases hb with hb | hb
      · exact hb
      · cases hb.1
    have := h1 b (Or.inl hb20)
    rw [e11, e7, e4]
    refine ⟨?_, this.2⟩
    funext k' f'
    simp [sI, show b ≠ 12 by omega, show b ≠ 13 by omega, show b ≠ 14 by omega, this.1]
  · rw [e11, e7, e4]
    exact ((h2.ix (by unfold sk; decide) _ _ _).ix (by unfold sk; decide) _ _ _).ix (by unfold sk; decide) _ _ _
  · rw [e11, e7, e4]
    exact ((h3.i (by decide) _ _ _).i (by decide) _ _ _).i (by decide) _ _ _
  · rw [e11, e7, e4]; exact ((h4.i (by decide) _ _ _).i (by decide) _ _ _).i (by decide) _ _ _
  · rw [e11, e7, e4]
    exact ((h5.i (by decide) (by decide) _ _ _).i (by decide) (by decide) _ _ _).i (by decide) (by decide) _ _ _
  · intro k' p' hk' hp'
    obtain ⟨r1, r2, r3⟩ := h6 k' p' hk' hp'
    by_cases e : k' = k ∧ p' = p
    · obtain ⟨rfl, rfl⟩ := e
      simp only [uQ, and_self, if_true]
      refine ⟨by simp; omega, ?_, fun i e hi => ?_⟩
      · rw [e11, e7, e4]
        simp [sI, q2, nI_p1]
      · by_cases hil : i < (qs k' p').length
        · rw [List.getElem?_append_left hil] at hi
          have := r3 i e hi
          rw [e11, e7, e4]
          have hne : 6 * p' + i ≠ p' * 6 + (qs k' p').length := by omega
          simp only [sI, hne, and_false, if_false, show ((13 : Nat) = 12) = False by simp, show ((14 : Nat) = 12) = False by simp, false_and, show ((13 : Nat) = 14) = False by simp, show ((14 : Nat) = 13) = False by simp]
          exact this
        · have hlt := (List.getElem?_eq_some_iff.mp hi).1
          have hie : i = (qs k' p').length := by simp at hlt; omega
          subst hie
          simp at hi
          subst hi
          rw [e11, e7, e4]
          simp [sI, Nat.mul_comm]
    · simp only [uQ, if_neg e]
      refine ⟨r1, ?_, fun i e' hi => ?_⟩
      · rw [e11, e7, e4]
        have : ¬ (k' = k ∧ p' = p) := e
        simp [sI, this, r2]
      · have hil := (List.getElem?_eq_some_iff.mp hi).1
        have := r3 i e' hi
        have hne : ¬ (k' = k ∧ 6 * p' + i = p * 6 + (qs k p).length) := by
          rintro ⟨rfl, h9⟩
          have : p' = p := by omega
          exact e ⟨rfl, this⟩
        rw [e11, e7, e4]
        simp only [sI, show ((13 : Nat) = 12) = False by simp, show ((14 : Nat) = 12) = False by simp, false_and, if_false, show ((13 : Nat) = 14) = False by simp, show ((14 : Nat) = 13) = False by simp, true_and, hne]
        exact this
