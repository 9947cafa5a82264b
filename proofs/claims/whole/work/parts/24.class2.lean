/-! PURE: askings, queues, calls of the class -/
theorem EqM.trans {b : Bool} {μ ν σ : Sg} (h1 : EqM b μ ν) (h2 : EqM b ν σ) : EqM b μ σ := fun a ha => ⟨(h2 a ha).1.trans (h1 a ha).1, (h2 a ha).2.trans (h1 a ha).2⟩
theorem RC.weak {bq : Bool} {μ τ σ : Sg} {ls : List Lt} {qs : Qu} (h : RC bq μ τ ls qs σ) : RC false μ τ ls qs σ := ⟨h.1.weak, h.2⟩
theorem RC.self {bq : Bool} {μ τ σ : Sg} {ls : List Lt} {qs : Qu} (h : RC bq μ τ ls qs σ) (b : Bool) : RC b σ τ ls qs σ := ⟨fun _ _ => ⟨rfl, rfl⟩, h.2.1, h.2.2.1, ⟨⟨rfl, rfl⟩, h.2.2.2.1.2⟩, h.2.2.2.2⟩
theorem RC.re {b bq : Bool} {μ ν τ τ0 σ : Sg} {ls ls0 : List Lt} {qs qs0 : Qu} (h : RC b ν τ ls qs σ) (h0 : RC bq μ τ0 ls0 qs0 ν) : RC false μ τ ls qs σ := by
  refine ⟨h0.1.weak.trans h.1.weak, h.2.1, h.2.2.1, ⟨⟨h.2.2.2.1.1.1.trans h0.2.2.2.1.1.1, ?_⟩, h.2.2.2.1.2⟩, h.2.2.2.2⟩
  have h1 := h.2.2.2.1.1.2
  rw [h0.2.2.2.1.1.1] at h1
  exact h1.trans h0.2.2.2.1.1.2
theorem C_awaits {σ : Sg} {k : Nat} {x1 x2 : Int32} {Q : Sg → Int32 → Prop} (h1 : σ.1 6 k 1 = x1 ∧ σ.1 6 k 2 = x2 → Q σ 1) (h0 : ¬ (σ.1 6 k 1 = x1 ∧ σ.1 6 k 2 = x2) → Q σ 0) : wp_X0_awaits σ k x1 x2 Q := ⟨fun a => ⟨fun b => h1 ⟨a, b⟩, fun b => h0 (fun c => b c.2)⟩, fun a => h0 (fun c => a c.1)⟩
/-- an asking comes to node k: it waits for that page to write, or for answers -/
def inW (τ : Sg) (k p : Nat) : Prop := (τ.1 6 k 1 = 2 ∨ τ.1 6 k 1 = 3) ∧ τ.1 6 k 2 = nI p
def aAsk (s : St) (k kd p a : Nat) : St :=
  if (s.1.1 6 k 1 = 2 ∨ s.1.1 6 k 1 = 3) ∧ s.1.1 6 k 2 = nI p then (s.1, s.2.1, uQ s.2.2 k p (s.2.2 k p ++ [(kd, a)]))
  else if s.1.1 8 k p = 0 then (let t := aCnt (aCnt s.1 1) 2; if kd = 2 then sI t 9 k p (nI a) else t, s.2.1 ++ [(kd, k, ix (s.1.1 9 k p), p, nI a, 0, lwd s.1 kd k p)], s.2.2)
  else if kd = 1 then (aCnt (aCnt (sI (sI s.1 10 k p (s.1.1 10 k p ||| (1 <<< (nI a &&& 31)))) 7 k p 1) 1) 3, s.2.1 ++ [(3, k, a, p, -1, 0, lwd s.1 3 k p)], s.2.2)
  else (sI (sI (sI (sI (aCnt (aCnt s.1 1) 4) 10 k p 0) 8 k p 0) 7 k p 0) 9 k p (nI a), s.2.1 ++ [(4, k, a, p, -1, s.1.1 10 k p, lwd s.1 4 k p)], s.2.2)
abbrev RCs (b : Bool) (μ : Sg) (s : St) (σ : Sg) : Prop := RC b μ s.1 s.2.1 s.2.2 σ
theorem C_asking_nq {bq : Bool} {μ σ : Sg} {s : St} (h : RCs bq μ s σ) (hn : s.2.1.length ≤ 30) {k kd p a g : Nat} (hk : k < 6) (hp : p < 8) (hkd : kd = 1 ∨ kd = 2) (hg : g < 6) (eg : s.1.1 9 k p = nI g) (hq : ¬ inW s.1 k p) (Q : Sg → Prop) (hQ : ∀ σ1, RCs bq μ (aAsk s k kd p a) σ1 → Q σ1) : wp_X4_askingComes σ k (nI kd) (nI p) (nI a) Q := by
  have e6 := h.2.1.a6
  have hgx : ix (s.1.1 9 k p) = g := by rw [eg, i_n g (by omega)]
  unfold wp_X4_askingComes
  have hQ' := hQ
  unfold aAsk at hQ'
  rw [if_neg (show ¬ ((s.1.1 6 k 1 = 2 ∨ s.1.1 6 k 1 = 3) ∧ s.1.1 6 k 2 = nI p) from hq), hgx] at hQ'
  refine C_awaits (fun c => ?_) (fun c => ?_)
  · rw [e6] at c; exact absurd ⟨Or.inl c.1, c.2⟩ hq
  refine ⟨fun _ => ?_, fun c0 => absurd rfl c0⟩
  refine C_awaits (fun c => ?_) (fun c => ?_)
  · rw [e6] at c; exact absurd ⟨Or.inr c.1, c.2⟩ hq
  refine ⟨fun _ => ⟨vp_n (by omega) (by omega), ?_⟩, fun c0 => absurd rfl c0⟩
  rw [i_n p (by omega), h.2.1.a8]
  refine ⟨fun c8 => ?_, fun c8 => ?_⟩
  · rw [if_pos c8] at hQ'
    exact C_sendOn h hn hk hp eg hkd _ (fun σ1 h1 => hQ' σ1 h1)
  · rw [if_neg c8] at hQ'
    refine ⟨fun c1 => ?_, fun c1 => ?_⟩
    · have : kd = 1 := nI_inj (by omega) (by omega) c1
      rw [if_pos this] at hQ'
      exact C_giveToRead h hn hk hp _ (fun σ1 h1 => hQ' σ1 h1)
    · have : kd ≠ 1 := fun e => c1 (by rw [e]; rfl)
      rw [if_neg this] at hQ'
      exact C_giveToWrite h hn hk hp _ (fun σ1 h1 => hQ' σ1 h1)
theorem C_asking {bq : Bool} {μ σ : Sg} {s : St} (h : RCs bq μ s σ) (hn : s.2.1.length ≤ 30) {k kd p a g : Nat} (hk : k < 6) (hp : p < 8) (hkd : kd = 1 ∨ kd = 2) (hg : g < 6) (eg : s.1.1 9 k p = nI g) (hl : (s.2.2 k p).length ≤ 5) (Q : Sg → Prop) (hQ : ∀ σ1, RCs false μ (aAsk s k kd p a) σ1 → Q σ1) : wp_X4_askingComes σ k (nI kd) (nI p) (nI a) Q := by
  by_cases hq : inW s.1 k p
  · have e6 := h.2.1.a6
    have hQ' := hQ
    unfold aAsk at hQ'
    rw [if_pos (show (s.1.1 6 k 1 = 2 ∨ s.1.1 6 k 1 = 3) ∧ s.1.1 6 k 2 = nI p from hq)] at hQ'
    unfold wp_X4_askingComes
    refine C_awaits (fun c => ?_) (fun c => ?_)
    · exact ⟨fun c0 => absurd c0 (by decide), fun _ => C_putInQueue h hk hp hl _ (fun σ1 h1 => hQ' σ1 h1)⟩
    refine ⟨fun _ => ?_, fun c0 => absurd rfl c0⟩
    refine C_awaits (fun c => ?_) (fun c3 => ?_)
    · exact ⟨fun c0 => absurd c0 (by decide), fun _ => C_putInQueue h hk hp hl _ (fun σ1 h1 => hQ' σ1 h1)⟩
    · rw [e6] at c c3
      exfalso
      rcases hq.1 with z | z
      · exact c ⟨z, hq.2⟩
      · exact c3 ⟨z, hq.2⟩
  · exact C_asking_nq h hn hk hp hkd hg eg hq Q (fun σ1 h1 => hQ σ1 h1.weak)
theorem aAsk_6 {s : St} {k kd p a : Nat} (k' f : Nat) : (aAsk s k kd p a).1.1 6 k' f = s.1.1 6 k' f := by
  unfold aAsk
  split
  · rfl
  · split
    · simp only
      split <;> simp [aCnt, sI]
    · split <;> simp [aCnt, sI]
theorem aAsk_len {s : St} {k kd p a : Nat} : (aAsk s k kd p a).2.1.length ≤ s.2.1.length + 1 := by
  unfold aAsk
  split
  · simp
  · split
    · simp
    · split <;> simp
theorem aAsk_g {s : St} {k kd p a g : Nat} (eg : s.1.1 9 k p = nI g) : (aAsk s k kd p a).1.1 9 k p = nI g ∨ (aAsk s k kd p a).1.1 9 k p = nI a := by
  unfold aAsk
  split
  · exact Or.inl eg
  · split
    · simp only
      split
      · right; simp [aCnt, sI]
      · left; simp [aCnt, sI, eg]
    · split
      · left; simp [aCnt, sI, eg]
      · right; simp [aCnt, sI]
def aGoL (k p : Nat) (es : List (Nat × Nat)) (s : St) : St := es.foldl (fun s e => aAsk s k e.1 p e.2) s
/-- the queue is gone over -/
def aGo (s : St) (k p : Nat) : St := aGoL k p (s.2.2 k p) (s.1, s.2.1, uQ s.2.2 k p [])
theorem C_goOver {bq : Bool} {μ σ : Sg} {s : St} (h : RCs bq μ s σ) {k p g : Nat} (hk : k < 6) (hp : p < 8) (hn : s.2.1.length + (s.2.2 k p).length ≤ 31) (hg : g < 6) (eg : s.1.1 9 k p = nI g) (hq : ¬ inW s.1 k p) (he : ∀ e, e ∈ s.2.2 k p → (e.1 = 1 ∨ e.1 = 2) ∧ e.2 < 6) (Q : Sg → Prop) (hQ : ∀ σ1, RCs false μ (aGo s k p) σ1 → Q σ1) : wp_X4_goOverQueue σ k (nI p) Q := by
  obtain ⟨τ, ls, qs⟩ := s
  simp only at hn eg hq he
  have hv : vp_in (nI p) 8 := vp_n (by omega) (by omega)
  obtain ⟨q1, q2, q3⟩ := h.2.2.2.2.2 k p hk hp
  simp only at q1 q2 q3
  unfold wp_X4_goOverQueue
  rw [i_n p (by omega), q2, nI_lit6]
  refine ⟨hv, hv, ?_⟩
  intro σ2 e2
  have e13 : σ2.1 13 = σ.1 13 := by rw [e2]; funext a b; simp [sI]
  have e14 : σ2.1 14 = σ.1 14 := by rw [e2]; funext a b; simp [sI]
  have h2 : RC false μ τ ls (uQ qs k p []) σ2 := by
    rw [e2]
    refine ⟨h.1.weak.i (by decide) _ _ _, h.2.1.ix (by unfold sk; decide) _ _ _, h.2.2.1.i (by decide) _ _ _, h.2.2.2.1.i (by decide) _ _ _, h.2.2.2.2.1.i (by decide) (by decide) _ _ _, ?_⟩
    intro k' p' hk' hp'
    obtain ⟨r1, r2, r3⟩ := h.2.2.2.2.2 k' p' hk' hp'
    simp only at r1 r2 r3
    by_cases e : k' = k ∧ p' = p
    · obtain ⟨rfl, rfl⟩ := e
      simp only [uQ, and_self, if_true]
      exact ⟨by simp, by simp [sI]; rfl, fun i e hi => by simp at hi⟩
    · simp only [uQ, if_neg e]
      refine ⟨r1, by simp [sI, e, r2], fun i e' hi => ?_⟩
      have := r3 i e' hi
      simp only [sI, show ((13 : Nat) = 12) = False by simp, show ((14 : Nat) = 12) = False by simp, false_and, if_false]
      exact this
  have L : ∀ (es : List (Nat × Nat)) (i : Nat) (s : St) (σ' : Sg), (∀ j e, es[j]? = some e → (qs k p)[i + j]? = some e) → i + es.length = (qs k p).length → RCs true σ2 s σ' → s.2.1.length + es.length ≤ 31 → (∃ g, g < 6 ∧ s.1.1 9 k p = nI g) → ¬ inW s.1 k p → (∀ σ1, RCs true σ2 (aGoL k p es s) σ1 → Q σ1) → lp_X4_goOverQueue_24 k (nI p) Q (es.length + 1) σ' (nI (qs k p).length) (nI (p * 6)) (nI (p * 6 + i)) := by
    intro es
    induction es with
    | nil =>
      intro i s σ' h1 hlen hR _ _ _ hQ2
      rw [lp_X4_goOverQueue_24]
      simp only [List.length_nil, Nat.add_zero] at hlen
      refine ⟨fun _ => hQ2 σ' hR, fun c => absurd ?_ c⟩
      rw [nI_add, hlen]
      exact nI_le (Nat.le_refl _) (by omega)
    | cons e es ih =>
      intro i s σ' h1 hlen hR hl hgs hqs hQ2
      rw [lp_X4_goOverQueue_24]
      simp only [List.length_cons] at hlen hl
      have h0 := h1 0 e rfl
      rw [Nat.add_zero] at h0
      have hent := q3 i e h0
      refine ⟨fun c => absurd c ?_, fun _ => ⟨vp_n (by omega) (by omega), vp_n (by omega) (by omega), ?_⟩⟩
      · rw [nI_add]; exact nI_ge (by omega) (by omega)
      · have hix : ix (nI (p * 6 + i)) = p * 6 + i := i_n _ (by omega)
        rw [hix, (hR.1 13 (Or.inr ⟨rfl, Or.inl rfl⟩)).1, (hR.1 14 (Or.inr ⟨rfl, Or.inr rfl⟩)).1, e13, e14, Nat.mul_comm p 6, hent.1, hent.2]
        obtain ⟨g', hg', eg'⟩ := hgs
        have hem : e ∈ qs k p := List.mem_of_getElem? h0
        refine C_asking_nq hR (by omega) hk hp (he e hem).1 hg' eg' hqs _ (fun σ1 hR1 => ?_)
        rw [Nat.mul_comm 6 p, nI_p1, Nat.add_assoc]
        refine ih (i + 1) _ σ1 (fun j e' hj => ?_) (by omega) hR1 (by have := aAsk_len (s := s) (k := k) (kd := e.1) (p := p) (a := e.2); omega) ?_ ?_ (fun σ3 h3 => hQ2 σ3 h3)
        · have := h1 (j + 1) e' (by rw [List.getElem?_cons_succ]; exact hj)
          rw [show i + 1 + j = i + (j + 1) by omega]
          exact this
        · rcases aAsk_g (kd := e.1) (a := e.2) eg' with z | z
          · exact ⟨g', hg', z⟩
          · exact ⟨e.2, (he e hem).2, z⟩
        · unfold inW
          rw [aAsk_6, aAsk_6]
          exact hqs
  refine ⟨(qs k p).length + 1, ?_⟩
  have := L (qs k p) 0 (τ, ls, uQ qs k p []) σ2 (fun j e hj => by rw [Nat.zero_add]; exact hj) (by omega) (h2.self true) hn ⟨g, hg, eg⟩ hq (fun σ1 h1 => hQ σ1 (h1.re h2))
  rw [Nat.add_zero] at this
  exact this
