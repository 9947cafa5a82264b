/-! PURE: what the reference's methods do to the abstract state -/
theorem sg_ext {σ τ : Sg} (h1 : ∀ a k f, σ.1 a k f = τ.1 a k f) (h2 : ∀ a k f, σ.2.1 a k f = τ.2.1 a k f) (h3 : σ.2.2 = τ.2.2) : σ = τ := by
  obtain ⟨a, b, c⟩ := σ
  obtain ⟨a', b', c'⟩ := τ
  simp only at h1 h2 h3
  have e1 : a = a' := by funext x y z; exact h1 x y z
  have e2 : b = b' := by funext x y z; exact h2 x y z
  rw [e1, e2, h3]
theorem sI_comm {σ : Sg} {a k f a' k' f' : Nat} {v v' : Int32} (h : ¬ (a = a' ∧ k = k' ∧ f = f')) : sI (sI σ a k f v) a' k' f' v' = sI (sI σ a' k' f' v') a k f v := by
  refine sg_ext (fun x y z => ?_) (fun _ _ _ => rfl) rfl
  simp only [sI]
  by_cases e1 : x = a' ∧ y = k' ∧ z = f'
  · by_cases e2 : x = a ∧ y = k ∧ z = f
    · exact absurd ⟨e2.1.symm.trans e1.1, e2.2.1.symm.trans e1.2.1, e2.2.2.symm.trans e1.2.2⟩ h
    · simp [e1]
      intro g1 g2 g3
      exact absurd ⟨g1.symm, g2.symm, g3.symm⟩ h
  · simp [e1]
theorem aCnt_comm (τ : Sg) {c d : Nat} (h : c ≠ d) : aCnt (aCnt τ c) d = aCnt (aCnt τ d) c := by
  have e1 : (aCnt τ c).1 2 0 d = τ.1 2 0 d := by simp [aCnt, sI, Ne.symm h]
  have e2 : (aCnt τ d).1 2 0 c = τ.1 2 0 c := by simp [aCnt, sI, h]
  show sI (aCnt τ c) 2 0 d ((aCnt τ c).1 2 0 d + 1) = sI (aCnt τ d) 2 0 c ((aCnt τ d).1 2 0 c + 1)
  rw [e1, e2]
  exact sI_comm (by omega)
theorem aCnt_sI (τ : Sg) {a k f c : Nat} {v : Int32} (h : a ≠ 2) : aCnt (sI τ a k f v) c = sI (aCnt τ c) a k f v := by
  have e1 : (sI τ a k f v).1 2 0 c = τ.1 2 0 c := by simp [sI, Ne.symm h]
  show sI (sI τ a k f v) 2 0 c ((sI τ a k f v).1 2 0 c + 1) = sI (sI τ 2 0 c (τ.1 2 0 c + 1)) a k f v
  rw [e1]
  exact sI_comm (by omega)
theorem pl_n (k p : Nat) : (8 * nI k + nI p : Int32) = nI (8 * k + p) := by rw [nI_lit8, nI_add]
theorem M_finish {bm : Bool} {κ τ σ : Sg} {ls : List Lt} {qs : Qu} (h : RM bm κ τ ls qs σ) {k p w : Nat} (hk : k < 6) (hT : TyH τ k p w) (h1 : τ.1 6 k 0 = 1) (Q : Sg → Prop) (hQ : ∀ σ1, RM bm κ (aFin τ k) ls qs σ1 → Q σ1) : wp_X5_finish σ (nI k) Q := by
  obtain ⟨hp, ep, hw, ew⟩ := hT
  obtain ⟨g29, g30, g31, g32⟩ := (h.2.2.2.1 k hk).2 h1
  have hv : vp_in (nI k) 6 := vp_n (by omega) (by omega)
  have hi : ix (τ.1 6 k 2) * 4 + ix (τ.1 6 k 3) = p * 4 + w := by rw [ep, ew, i_n p (by omega), i_n w (by omega)]
  unfold wp_X5_finish
  refine ⟨hv, ?_⟩
  unfold wp_X5_place
  dsimp only
  have hpl : (4 * (8 * nI k + σ.1 29 0 (ix (nI k))) + σ.1 30 0 (ix (nI k)) : Int32) = nI (32 * k + (p * 4 + w)) := by
    rw [i_n k (by omega), g29, g30, ep, ew, pl_n, nI_4lit, nI_add]
    congr 1
    omega
  rw [hpl, i_n k (by omega), i_n (32 * k + (p * 4 + w)) (by omega), g31, g32]
  have hv2 : vp_in (nI (32 * k + (p * 4 + w))) 192 := vp_n (by omega) (by omega)
  have hwd := h.2.2.1 k (p * 4 + w) hk (by omega)
  unfold aFin at hQ
  rw [hi] at hQ
  refine ⟨hv, hv, fun c => ⟨hv2, hv, ?_⟩, fun c => ⟨hv, hv2, ?_⟩⟩
  · simp only [if_pos c] at hQ
    intro σ9 e9
    refine ⟨hv, fun σ12 e12 => ⟨hv, hv, fun σ16 e16 σ19 e19 => hQ σ19 ?_⟩⟩
    have a1 := h.rs k (τ.2.1 11 k (p * 4 + w))
    rw [hwd] at e9
    rw [← e9] at a1
    have a2 := a1.hd (a := 28) (f := 1) (Or.inl ⟨rfl, rfl⟩) k 0
    rw [← e12] at a2
    have e36 := (a2.2.2.2.1 k hk).1.2.2.2.2.1
    have a3 := a2.hd (a := 36) (f := 8) (Or.inr (Or.inr (Or.inr ⟨rfl, rfl⟩))) k (σ12.1 36 0 k + 1)
    rw [← e16, e36] at a3
    rw [ixl6] at e19
    have a4 := a3.cnt (c := 6) (by decide)
    rw [← e19] at a4
    exact a4
  · simp only [if_neg c] at hQ
    intro σ22 e22
    refine ⟨hv2, hv, fun σ26 e26 => ⟨hv, fun σ29 e29 => ⟨hv, hv, fun σ33 e33 σ36 e36' => hQ σ36 ?_⟩⟩⟩
    have a0 := h.wd (k := k) (i := p * 4 + w) (by omega) (τ.2.1 6 k 5)
    rw [← e22] at a0
    have hwd2 := a0.2.2.1 k (p * 4 + w) hk (by omega)
    have a1 := a0.rs k ((sL τ 11 k (p * 4 + w) (τ.2.1 6 k 5)).2.1 11 k (p * 4 + w))
    rw [hwd2] at e26
    rw [← e26] at a1
    have a2 := a1.hd (a := 28) (f := 1) (Or.inl ⟨rfl, rfl⟩) k 0
    rw [← e29] at a2
    have e36 := (a2.2.2.2.1 k hk).1.2.2.2.2.1
    have a3 := a2.hd (a := 36) (f := 8) (Or.inr (Or.inr (Or.inr ⟨rfl, rfl⟩))) k (σ29.1 36 0 k + 1)
    rw [← e33, e36] at a3
    rw [ixl6] at e36'
    have a4 := a3.cnt (c := 6) (by decide)
    rw [← e36'] at a4
    exact a4
theorem M_take {bm : Bool} {κ τ σ : Sg} {ls : List Lt} {qs : Qu} (h : RM bm κ τ ls qs σ) {k : Nat} (hk : k < 6) {x1 x2 x3 : Int32} {x4 : Int64} (hz : x3 = 0 ∨ x3 = 1) (Q : Sg → Prop) (hQ : ∀ σ1, (∀ σ2, σ2 = sL σ1 32 0 k x4 → RM bm κ (aTake τ k x1 x2 x3 x4) ls qs σ2) → Q σ1) : wp_X5_takeUp σ (nI k) x1 x2 x3 Q := by
  have hv : vp_in (nI k) 6 := vp_n (by omega) (by omega)
  unfold wp_X5_takeUp
  rw [i_n k (by omega)]
  refine ⟨hv, fun σ1 e1 => ⟨hv, fun σ4 e4 => ⟨hv, hz, fun σ7 e7 => ⟨hv, fun σ11 e11 => ⟨hv, fun σ14 e14 => ⟨hv, fun σ17 e17 => hQ σ17 ?_⟩⟩⟩⟩⟩⟩
  intro σ2 e2
  have hkk : ∀ b, b < 29 ∨ 35 < b → σ2.1 b = σ.1 b := by
    intro b hb
    rw [e2]
    show σ17.1 b = _
    rw [e17, sI_k (by omega), e14, sI_k (by omega), e11, sI_k (by omega), e7, sI_k (by omega), e4, sI_k (by omega), e1, sI_k (by omega)]
  have hkl : ∀ b, b ≠ 32 → σ2.2.1 b = σ.2.1 b := by
    intro b hb
    rw [e2, sL_k hb, e17, e14, e11, e7, e4, e1]
    rfl
  have ht : ∀ b, b ≠ 6 → (aTake τ k x1 x2 x3 x4).1 b = τ.1 b := by
    intro b hb
    unfold aTake
    rw [sI_k hb, sI_k hb]
    show (sI (sI (sI (sI τ 6 k 0 1) 6 k 2 x1) 6 k 3 x2) 6 k 4 x3).1 b = _
    rw [sI_k hb, sI_k hb, sI_k hb, sI_k hb]
  have htl : ∀ b, b ≠ 6 → (aTake τ k x1 x2 x3 x4).2.1 b = τ.2.1 b := by
    intro b hb
    unfold aTake
    show (sL (sI (sI (sI (sI τ 6 k 0 1) 6 k 2 x1) 6 k 3 x2) 6 k 4 x3) 6 k 5 x4).2.1 b = _
    rw [sL_k hb]
    rfl
  refine ⟨?_, h.2.1.o (hkk _ (by decide)) (hkk _ (by decide)) (hkk _ (by decide)) (hkk _ (by decide)) (ht _ (by decide)) (ht _ (by decide)) (ht _ (by decide)) (ht _ (by decide)), h.2.2.1.o (hkl _ (by decide)) (htl _ (by decide)), ?_, h.2.2.2.2.1.o (by rw [hkk _ (by decide)]) (hkk _ (by decide)) (ht _ (by decide)) (ht _ (by decide)), h.2.2.2.2.2.1.o (by rw [hkk _ (by decide)]) (hkk _ (by decide)) (hkl _ (by decide)), h.2.2.2.2.2.2.o (hkk _ (by decide)) (hkk _ (by decide))⟩
  · rw [e2, e17, e14, e11, e7, e4, e1]
    exact ((((((h.1.i (by decide) _ _ _).i (by decide) _ _ _).i (by decide) _ _ _).i (by decide) _ _ _).i (by decide) _ _ _).i (by decide) _ _ _).l (by decide) _ _ _
  · intro k' hk'
    obtain ⟨⟨b1, b2, b3, b4, b5, b6⟩, b7⟩ := h.2.2.2.1 k' hk'
    rw [e2, e17, e14, e11, e7, e4, e1]
    unfold aTake
    by_cases e : k' = k
    · subst e
      simp [sI, sL, b1, b5, b6]
    · simp [sI, sL, e, b1, b2, b3, b4, b5, b6]
      intro h0
      obtain ⟨c1, c2, c3, c4⟩ := b7 h0
      exact ⟨c1, c2, c3, c4⟩
/-- the calls alone: letters and counts -/
def aCm1 (cp : Int32) (k p to : Nat) (s : St) : St := if ((cp >>> (nI to &&& 31)) &&& 1) = 1 then (aCnt (aSend s 5 k to p (-1) 0).1 5, (aSend s 5 k to p (-1) 0).2.1, s.2.2) else s
def aCm (cp : Int32) (k p : Nat) : Nat → St → St
  | 0, s => s
  | n + 1, s => aCm1 cp k p n (aCm cp k p n s)
def cntb (cp : Int32) : Nat → Nat
  | 0 => 0
  | n + 1 => cntb cp n + (if ((cp >>> (nI n &&& 31)) &&& 1) = 1 then 1 else 0)
theorem cntb_le (cp : Int32) : ∀ n, cntb cp n ≤ n
  | 0 => Nat.le_refl _
  | n + 1 => by have := cntb_le cp n; unfold cntb; split <;> omega
theorem aCm_q (cp : Int32) (k p : Nat) : ∀ (n : Nat) (s : St), (aCm cp k p n s).2.2 = s.2.2
  | 0, s => rfl
  | n + 1, s => by
    have := aCm_q cp k p n s
    unfold aCm aCm1
    split
    · exact this
    · exact this
theorem aCm_len (cp : Int32) (k p : Nat) : ∀ (n : Nat) (s : St), (aCm cp k p n s).2.1.length ≤ s.2.1.length + n
  | 0, s => Nat.le_refl _
  | n + 1, s => by
    have := aCm_len cp k p n s
    unfold aCm aCm1
    split
    · simp [aSend]; omega
    · omega
theorem aCm_i (cp : Int32) (k p : Nat) : ∀ (n : Nat) (s : St) (a k' f : Nat), a ≠ 2 → (aCm cp k p n s).1.1 a k' f = s.1.1 a k' f
  | 0, s, a, k', f, _ => rfl
  | n + 1, s, a, k', f, h2 => by
    have := aCm_i cp k p n s a k' f h2
    unfold aCm aCm1
    split
    · simp only [aSend, aCnt, sI, h2, false_and, if_false]
      exact this
    · exact this
theorem aCb_eq (cp : Int32) (k p : Nat) (τ : Sg) (ls : List Lt) (qs : Qu) (h0 : τ.1 6 k 6 = 0) : ∀ n, aCb cp k p n (sI (sI τ 10 k p 0) 6 k 1 3, ls, qs) = (sI (sI (sI (aCm cp k p n (τ, ls, qs)).1 10 k p 0) 6 k 1 3) 6 k 6 (nI (cntb cp n)), (aCm cp k p n (τ, ls, qs)).2.1, qs)
  | 0 => by
    show (sI (sI τ 10 k p 0) 6 k 1 3, ls, qs) = (sI (sI (sI τ 10 k p 0) 6 k 1 3) 6 k 6 (nI 0), ls, qs)
    have : sI (sI (sI τ 10 k p 0) 6 k 1 3) 6 k 6 (nI 0) = sI (sI τ 10 k p 0) 6 k 1 3 := by
      refine sg_ext (fun x y z => ?_) (fun _ _ _ => rfl) rfl
      simp only [sI]
      by_cases e : x = 6 ∧ y = k ∧ z = 6
      · obtain ⟨rfl, rfl, rfl⟩ := e
        simp [h0, nI_0]
      · simp [e]
    rw [this]
  | n + 1 => by
    have ih := aCb_eq cp k p τ ls qs h0 n
    show aCb1 cp k p n (aCb cp k p n _) = (sI (sI (sI (aCm1 cp k p n (aCm cp k p n (τ, ls, qs))).1 10 k p 0) 6 k 1 3) 6 k 6 (nI (cntb cp n + _)), (aCm1 cp k p n (aCm cp k p n (τ, ls, qs))).2.1, qs)
    rw [ih]
    unfold aCb1 aCm1
    by_cases c : ((cp >>> (nI n &&& 31)) &&& 1) = 1
    · rw [if_pos c, if_pos c, if_pos c]
      refine Prod.ext ?_ (Prod.ext ?_ rfl)
      · refine sg_ext (fun x y z => ?_) (fun _ _ _ => rfl) rfl
        simp only [aSend, aCnt, sI]
        by_cases e6 : x = 6 ∧ y = k ∧ z = 6
        · obtain ⟨rfl, rfl, rfl⟩ := e6
          simp [nI_p1]
        · by_cases e2 : x = 2
          · subst e2
            simp
          · simp [e6, e2]
      · simp only [aSend]
        rw [lwd_n (by omega), lwd_n (by omega)]
    · rw [if_neg c, if_neg c, if_neg c, Nat.add_zero]
theorem aFin_sI1 {τ : Sg} {k : Nat} {v : Int32} : aFin (sI τ 6 k 1 v) k = aFin τ k := by
  unfold aFin
  have e2 : (sI τ 6 k 1 v).1 6 k 2 = τ.1 6 k 2 := by simp [sI]
  have e3 : (sI τ 6 k 1 v).1 6 k 3 = τ.1 6 k 3 := by simp [sI]
  have e4 : (sI τ 6 k 1 v).1 6 k 4 = τ.1 6 k 4 := by simp [sI]
  have e5 : (sI τ 6 k 1 v).2.1 = τ.2.1 := rfl
  rw [e2, e3, e4, e5]
  refine sg_ext (fun x y z => ?_) (fun x y z => ?_) ?_
  · simp only [aCnt, sI, sL]
    by_cases c : τ.1 6 k 4 = 0
    · simp only [if_pos c]
      by_cases e : x = 6 ∧ y = k ∧ z = 1
      · obtain ⟨rfl, rfl, rfl⟩ := e
        simp
      · simp [e]
    · simp only [if_neg c]
      by_cases e : x = 6 ∧ y = k ∧ z = 1
      · obtain ⟨rfl, rfl, rfl⟩ := e
        simp
      · simp [e]
  · simp only [aCnt, sI, sL]
    by_cases c : τ.1 6 k 4 = 0
    · simp only [if_pos c]
    · simp only [if_neg c]
  · simp only [aCnt, sI, sL]
    by_cases c : τ.1 6 k 4 = 0
    · simp only [if_pos c]
    · simp only [if_neg c]
theorem M_callBack {bm : Bool} {κ σ : Sg} {s : St} (h : RMs bm κ s σ) {k p w N : Nat} (hk : k < 6) (hT : TyH s.1 k p w) (hN : N ≤ 6) (eN : s.1.1 0 0 3 = nI N) (hn : s.2.1.length + N ≤ 188) (h1 : s.1.1 6 k 0 = 1) (h6 : s.1.1 6 k 6 = 0) (Q : Sg → Int32 → Prop) (hQ1 : cntb (s.1.1 10 k p) N = 0 → ∀ σ1, RMs bm κ (aFin (sI (aCall s k p N).1 7 k p 2) k, (aCall s k p N).2.1, s.2.2) σ1 → Q σ1 1) (hQ0 : cntb (s.1.1 10 k p) N ≠ 0 → ∀ σ1, RMs bm κ (aCall s k p N) σ1 → Q σ1 0) : wp_X5_callBack σ (nI k) Q := by
  obtain ⟨hp, ep, hw, ew⟩ := id hT
  have hv : vp_in (nI k) 6 := vp_n (by omega) (by omega)
  have g29 := ((h.2.2.2.1 k hk).2 h1).1
  have hcall : aCall s k p N = (sI (sI (sI (aCm (s.1.1 10 k p) k p N s).1 10 k p 0) 6 k 1 3) 6 k 6 (nI (cntb (s.1.1 10 k p) N)), (aCm (s.1.1 10 k p) k p N s).2.1, s.2.2) := aCb_eq (s.1.1 10 k p) k p s.1 s.2.1 s.2.2 h6 N
  generalize hcp : s.1.1 10 k p = cp at *
  unfold wp_X5_callBack
  rw [i_n k (by omega), g29, ep]
  refine ⟨hv, ?_⟩
  unfold wp_X5_place
  dsimp only
  rw [pl_n]
  have hv48 : vp_in (nI (8 * k + p)) 48 := vp_n (by omega) (by omega)
  have L : ∀ (m to : Nat) (σ' : Sg), to + m = N → RMs bm κ (aCm cp k p to s) σ' → lp_X5_callBack_16 (nI k) Q (m + 1) σ' (nI (8 * k + p)) (nI (cntb cp to)) (nI to) := by
    intro m
    induction m with
    | zero =>
      intro to σ' hto hR
      have hto : to = N := by omega
      subst hto
      rw [lp_X5_callBack_16, i_n (8 * k + p) (by omega), i_n k (by omega)]
      have hNs : σ'.1 20 0 0 = nI to := by
        rw [hR.2.2.2.2.1.1, aCm_i _ _ _ _ _ _ _ _ (by decide)]
        exact eN
      refine ⟨fun _ => ⟨hv48, ?_⟩, fun c => absurd (by rw [hNs]; exact nI_le (Nat.le_refl _) (by omega)) c⟩
      intro σ6 e6
      refine ⟨hv, ?_⟩
      intro σ9 e9
      have a1 := hR.pg (a := 24) (b := 10) (by omega) (k := k) hp 0
      rw [← e6] at a1
      have a2 := a1.hd (a := 33) (f := 6) (by omega) k (nI (cntb cp to))
      rw [← e9] at a2
      refine ⟨fun c => ⟨hv48, ?_⟩, fun c => ⟨hv, ?_⟩⟩
      · have hc0 : cntb cp to = 0 := nI_inj (by have := cntb_le cp to; omega) (by omega) c
        intro σ13 e13
        have a3 := a2.pg (a := 21) (b := 7) (by omega) (k := k) hp 2
        rw [← e13] at a3
        refine M_finish a3 hk (p := p) (w := w) ⟨hp, ?_, hw, ?_⟩ ?_ _ (fun σ16 a4 => hQ1 hc0 σ16 ?_)
        · simp [sI]; rw [aCm_i _ _ _ _ _ _ _ _ (by decide)]; exact ep
        · simp [sI]; rw [aCm_i _ _ _ _ _ _ _ _ (by decide)]; exact ew
        · simp [sI]; rw [aCm_i _ _ _ _ _ _ _ _ (by decide)]; exact h1
        · rw [hcall]
          have e7 : aFin (sI (sI (sI (sI (aCm cp k p to s).1 10 k p 0) 6 k 1 3) 6 k 6 (nI (cntb cp to))) 7 k p 2) k = aFin (sI (sI (sI (aCm cp k p to s).1 10 k p 0) 6 k 6 (nI (cntb cp to))) 7 k p 2) k := by
            have q : sI (sI (sI (sI (aCm cp k p to s).1 10 k p 0) 6 k 1 3) 6 k 6 (nI (cntb cp to))) 7 k p 2 = sI (sI (sI (sI (aCm cp k p to s).1 10 k p 0) 6 k 6 (nI (cntb cp to))) 7 k p 2) 6 k 1 3 := by
              rw [sI_comm (a := 6) (k := k) (f := 1) (a' := 6) (k' := k) (f' := 6) (by omega), sI_comm (a := 6) (k := k) (f := 1) (a' := 7) (k' := k) (f' := p) (by omega)]
            rw [q, aFin_sI1]
          show RM bm κ (aFin (sI (sI (sI (sI (aCm cp k p to s).1 10 k p 0) 6 k 1 3) 6 k 6 (nI (cntb cp to))) 7 k p 2) k) (aCm cp k p to s).2.1 s.2.2 σ16
          rw [e7]
          have := a4
          rw [aCm_q] at this
          exact this
      · have hc0 : cntb cp to ≠ 0 := fun z => c (by rw [z]; rfl)
        intro σ19 e19
        refine hQ0 hc0 σ19 ?_
        have a3 := a2.hd (a := 28) (f := 1) (by omega) k 3
        rw [← e19, aCm_q] at a3
        rw [hcall]
        show RM bm κ (sI (sI (sI (aCm cp k p to s).1 10 k p 0) 6 k 1 3) 6 k 6 (nI (cntb cp to))) (aCm cp k p to s).2.1 s.2.2 σ19
        rw [sI_comm (a := 6) (k := k) (f := 1) (a' := 6) (k' := k) (f' := 6) (by omega)]
        exact a3
    | succ m ih =>
      intro to σ' hto hR
      rw [lp_X5_callBack_16, i_n (8 * k + p) (by omega), i_n k (by omega)]
      have hNs : σ'.1 20 0 0 = nI N := by
        rw [hR.2.2.2.2.1.1, aCm_i _ _ _ _ _ _ _ _ (by decide)]
        exact eN
      have hcps : σ'.1 24 0 (8 * k + p) = cp := by
        rw [(hR.2.1 k p hk hp).2.2.2, aCm_i _ _ _ _ _ _ _ _ (by decide)]
        exact hcp
      have g29' : σ'.1 29 0 k = nI p := by
        rw [((hR.2.2.2.1 k hk).2 (by rw [aCm_i _ _ _ _ _ _ _ _ (by decide)]; exact h1)).1, aCm_i _ _ _ _ _ _ _ _ (by decide)]
        exact ep
      have hlen := aCm_len cp k p to s
      refine ⟨fun c => absurd c (by rw [hNs]; exact nI_ge (by omega) (by omega)), fun _ => ⟨hv48, ?_⟩⟩
      rw [hcps, g29', nI_p1, nI_p1]
      refine ⟨fun c => ⟨hv, ?_⟩, fun c => ?_⟩
      · refine M_send hR (by omega) (kd := 5) hk hp (by decide) _ (fun σ25 a1 => ?_)
        intro σ28 e28
        have hcn : cntb cp to + 1 = cntb cp (to + 1) := by
          show _ = cntb cp to + _
          rw [if_pos c]
        rw [hcn]
        refine ih (to + 1) σ28 (by omega) ?_
        show RMs bm κ (aCm1 cp k p to (aCm cp k p to s)) σ28
        unfold aCm1
        rw [if_pos c]
        rw [ixl5] at e28
        rw [e28]
        exact a1.cnt (c := 5) (by decide)
      · have hcn : cntb cp to = cntb cp (to + 1) := by
          show _ = cntb cp to + _
          rw [if_neg c, Nat.add_zero]
        rw [hcn]
        refine ih (to + 1) σ' (by omega) ?_
        show RMs bm κ (aCm1 cp k p to (aCm cp k p to s)) σ'
        unfold aCm1
        rw [if_neg c]
        exact hR
  exact ⟨N + 1, L N 0 σ (by omega) h⟩
