/-! PURE: begin -/
def pv (N k a p : Nat) : Int32 := if a = 7 then (if p % N = k then 2 else 0) else if a = 8 then (if p % N = k then 1 else 0) else if a = 9 then nI (p % N) else 0
def pk5 (a : Nat) : Prop := a = 7 ∨ a = 8 ∨ a = 9 ∨ a = 10 ∨ a = 12
def NIni (N k : Nat) (τ : Sg) : Prop := (τ.1 6 k 0 = 0 ∧ τ.1 6 k 1 = 0 ∧ τ.1 6 k 2 = 0 ∧ τ.1 6 k 3 = 0 ∧ τ.1 6 k 6 = 0 ∧ τ.1 6 k 7 = 0 ∧ τ.1 6 k 8 = 0 ∧ τ.2.1 6 k 9 = 0) ∧ (∀ i, i < 32 → τ.2.1 11 k i = 0) ∧ ∀ a p, pk5 a → p < 8 → τ.1 a k p = pv N k a p
def Ini (N : Nat) (τ : Sg) : Prop := τ.1 0 0 3 = nI N ∧ (∀ k, k < 6 → NIni N k τ) ∧ (∀ c, 1 ≤ c → c < 8 → τ.1 2 0 c = 0) ∧ τ.1 2 0 0 = nI N ∧ τ.1 3 0 1 = 0
def Fm (k : Nat) (σ σ' : Sg) : Prop := (∀ a k' f, ¬ ((6 ≤ a ∧ a ≤ 12) ∧ k' = k) → σ'.1 a k' f = σ.1 a k' f ∧ σ'.2.1 a k' f = σ.2.1 a k' f) ∧ σ'.2.2 = σ.2.2
theorem fM : ∀ y, y < 8 → ∀ N, N < 7 → 2 ≤ N → (¬ nI N = 0) ∧ (¬ nI N < 1) ∧ 0 ≤ (nI y ^^^ nI N) ∧ nI y - nI y / nI N * nI N = nI (y % N) := by decide +kernel
theorem f8 : ∀ y, y < 48 → nI y / 8 = nI (y / 8) ∧ nI y - nI y / 8 * 8 = nI (y % 8) := by decide +kernel
theorem C_floorMod {σ : Sg} {y N : Nat} (hy : y < 8) (h2 : 2 ≤ N) (h6 : N ≤ 6) (Q : Sg → Int32 → Prop) (hQ : Q σ (nI (y % N))) : wp_J9_floorMod_7cf53 σ (nI y) (if nI N < 1 then 1 else nI N) Q := by
  obtain ⟨a, b, c, d⟩ := fM y hy N (by omega) h2
  rw [if_neg b]
  unfold wp_J9_floorMod_7cf53
  rw [d]
  exact ⟨a, fun _ => hQ, fun z => absurd c z⟩
theorem C_fillL {σ : Sg} {k : Nat} (Q : Sg → Prop) (hQ : ∀ σ1, σ1.1 = σ.1 → σ1.2.2 = σ.2.2 → (∀ a k' f, σ1.2.1 a k' f = if a = 11 ∧ k' = k ∧ f < 32 then 0 else σ.2.1 a k' f) → Q σ1) : wp_J7_fill_d0a16 σ k 0 Q := by
  have L : ∀ (m y : Nat) (σ' : Sg), y + m = 32 → σ'.1 = σ.1 → σ'.2.2 = σ.2.2 → (∀ a k' f, σ'.2.1 a k' f = if a = 11 ∧ k' = k ∧ f < y then 0 else σ.2.1 a k' f) → lp_J7_fill_d0a16_6 k 0 Q (m + 1) σ' (nI y) (nI 32) := by
    intro m
    induction m with
    | zero =>
      intro y σ' hy a1 a2 a3
      have hy : y = 32 := by omega
      subst hy
      rw [lp_J7_fill_d0a16_6]
      exact ⟨fun _ => hQ σ' a1 a2 a3, fun c => absurd (nI_le (Nat.le_refl 32) (by decide)) c⟩
    | succ m ih =>
      intro y σ' hy a1 a2 a3
      rw [lp_J7_fill_d0a16_6, nI_p1, i_n y (by omega)]
      refine ⟨fun c => absurd c (nI_ge (b := 32) (by omega) (by omega)), fun _ => ⟨vp_n (by omega) (by omega), fun σ3 e3 => ?_⟩⟩
      refine ih (y + 1) σ3 (by omega) (by rw [e3]; exact a1) (by rw [e3]; exact a2) (fun a k' f => ?_)
      rw [e3]
      show (if a = 11 ∧ k' = k ∧ f = y then 0 else σ'.2.1 a k' f) = _
      rw [a3]
      by_cases c : a = 11 ∧ k' = k
      · obtain ⟨rfl, rfl⟩ := c
        by_cases d : f = y
        · rw [if_pos ⟨rfl, rfl, d⟩, if_pos ⟨rfl, rfl, by omega⟩]
        · rw [if_neg (fun z => d z.2.2)]
          by_cases g : f < y
          · rw [if_pos ⟨rfl, rfl, g⟩, if_pos ⟨rfl, rfl, by omega⟩]
          · rw [if_neg (fun z => g z.2.2), if_neg (fun z => by have := z.2.2; omega)]
      · rw [if_neg (fun z => c ⟨z.1, z.2.1⟩), if_neg (fun z => c ⟨z.1, z.2.1⟩), if_neg (fun z => c ⟨z.1, z.2.1⟩)]
  exact ⟨33, L 32 0 σ (by decide) rfl rfl (fun a k' f => by rw [if_neg (fun z => by have := z.2.2; omega)])⟩
theorem C_fillI {σ : Sg} (Q : Sg → Prop) (hQ : ∀ σ1, σ1.2 = σ.2 → (∀ a k' f, σ1.1 a k' f = if a = 2 ∧ k' = 0 ∧ f < 8 then 0 else σ.1 a k' f) → Q σ1) : wp_J7_fill_53178 σ 0 Q := by
  have L : ∀ (m y : Nat) (σ' : Sg), y + m = 8 → σ'.2 = σ.2 → (∀ a k' f, σ'.1 a k' f = if a = 2 ∧ k' = 0 ∧ f < y then 0 else σ.1 a k' f) → lp_J7_fill_53178_5 0 Q (m + 1) σ' (nI y) (nI 8) := by
    intro m
    induction m with
    | zero =>
      intro y σ' hy a1 a3
      have hy : y = 8 := by omega
      subst hy
      rw [lp_J7_fill_53178_5]
      exact ⟨fun _ => hQ σ' a1 a3, fun c => absurd (nI_le (Nat.le_refl 8) (by decide)) c⟩
    | succ m ih =>
      intro y σ' hy a1 a3
      rw [lp_J7_fill_53178_5, nI_p1, i_n y (by omega)]
      refine ⟨fun c => absurd c (nI_ge (b := 8) (by omega) (by omega)), fun _ => ⟨vp_n (by omega) (by omega), fun σ3 e3 => ?_⟩⟩
      refine ih (y + 1) σ3 (by omega) (by rw [e3]; exact a1) (fun a k' f => ?_)
      rw [e3]
      show (if a = 2 ∧ k' = 0 ∧ f = y then 0 else σ'.1 a k' f) = _
      rw [a3]
      by_cases c : a = 2 ∧ k' = 0
      · obtain ⟨rfl, rfl⟩ := c
        by_cases d : f = y
        · rw [if_pos ⟨rfl, rfl, d⟩, if_pos ⟨rfl, rfl, by omega⟩]
        · rw [if_neg (fun z => d z.2.2)]
          by_cases g : f < y
          · rw [if_pos ⟨rfl, rfl, g⟩, if_pos ⟨rfl, rfl, by omega⟩]
          · rw [if_neg (fun z => g z.2.2), if_neg (fun z => by have := z.2.2; omega)]
      · rw [if_neg (fun z => c ⟨z.1, z.2.1⟩), if_neg (fun z => c ⟨z.1, z.2.1⟩), if_neg (fun z => c ⟨z.1, z.2.1⟩)]
  exact ⟨9, L 8 0 σ (by decide) rfl (fun a k' f => by rw [if_neg (fun z => by have := z.2.2; omega)])⟩
theorem C_X0s {σ : Sg} {k : Nat} (Q : Sg → Prop) (hQ : Q (sL (sI (sI (sI (aTake σ k 0 0 0 0) 6 k 0 0) 6 k 1 0) 6 k 8 0) 6 k 9 0)) : wp_X0_startAnew σ k Q := by
  unfold wp_X0_startAnew wp_X0_take
  intro s1 e1 s3 e3 s5 e5
  refine ⟨Or.inl rfl, ?_⟩
  intro s7 e7 s10 e10 s12 e12 s14 e14 s15 e15 s16 e16 s17 e17 s18 e18
  rw [e18, e17, e16, e15, e14, e12, e10, e7, e5, e3, e1]
  exact hQ
theorem pg5 {σ : Sg} {k y : Nat} {v7 v8 v9 : Int32} (a k' f : Nat) : (sI (sI (sI (sI (sI σ 8 k y v8) 7 k y v7) 9 k y v9) 10 k y 0) 12 k y 0).1 a k' f = if k' = k ∧ f = y then (if a = 12 then 0 else if a = 10 then 0 else if a = 9 then v9 else if a = 7 then v7 else if a = 8 then v8 else σ.1 a k' f) else σ.1 a k' f := by
  by_cases c : k' = k ∧ f = y
  · obtain ⟨rfl, rfl⟩ := c
    simp [sI]
  · simp [sI, c]
theorem C_pages {σ : Sg} {k N : Nat} (h2 : 2 ≤ N) (h6 : N ≤ 6) (hk : k < 6) (h5 : σ.1 5 k 0 = nI k) (Q : Sg → Prop) (hQ : ∀ σ1, σ1.2 = σ.2 → (∀ a k' f, ¬ (pk5 a ∧ k' = k) → σ1.1 a k' f = σ.1 a k' f) → (∀ a p, pk5 a → p < 8 → σ1.1 a k p = pv N k a p) → Q σ1) : ∃ n, lp_X3_startAnew_17 k (nI N) Q n σ 0 := by
  have L : ∀ (m y : Nat) (σ' : Sg), y + m = 8 → σ'.2 = σ.2 → (∀ a k' f, ¬ (pk5 a ∧ k' = k) → σ'.1 a k' f = σ.1 a k' f) → (∀ a p, pk5 a → p < y → σ'.1 a k p = pv N k a p) → lp_X3_startAnew_17 k (nI N) Q (m + 1) σ' (nI y) := by
    intro m
    induction m with
    | zero =>
      intro y σ' hy a1 a2 a3
      have hy : y = 8 := by omega
      subst hy
      rw [lp_X3_startAnew_17]
      exact ⟨fun _ => hQ σ' a1 a2 a3, fun c => absurd (nI_le (Nat.le_refl 8) (by decide)) c⟩
    | succ m ih =>
      intro y σ' hy a1 a2 a3
      rw [lp_X3_startAnew_17, nI_p1]
      refine ⟨fun c => absurd c (nI_ge (b := 8) (by omega) (by omega)), fun _ => ?_⟩
      refine C_floorMod (by omega) h2 h6 _ ?_
      have hv : vp_in (nI y) 8 := vp_n (by omega) (by omega)
      have e5 : σ'.1 5 k 0 = nI k := by rw [a2 5 k 0 (fun z => by have := z.1; unfold pk5 at this; omega)]; exact h5
      have hlt : y % N < N := Nat.mod_lt _ (by omega)
      have step : ∀ (v7 v8 : Int32) (σ3 : Sg), v7 = (if y % N = k then 2 else 0) → v8 = (if y % N = k then 1 else 0) → σ3 = sI (sI (sI (sI (sI σ' 8 k y v8) 7 k y v7) 9 k y (nI (y % N))) 10 k y 0) 12 k y 0 → lp_X3_startAnew_17 k (nI N) Q (m + 1) σ3 (nI (y + 1)) := by
        intro v7 v8 σ3 e7 e8 e3
        refine ih (y + 1) σ3 (by omega) (by rw [e3]; exact a1) (fun a k' f hn => ?_) (fun a p ha hp => ?_)
        · rw [e3, pg5]
          by_cases c : k' = k ∧ f = y
          · have : ¬ pk5 a := fun z => hn ⟨z, c.1⟩
            unfold pk5 at this
            rw [if_pos c, if_neg (by omega), if_neg (by omega), if_neg (by omega), if_neg (by omega), if_neg (by omega)]
            exact a2 a k' f hn
          · rw [if_neg c]
            exact a2 a k' f hn
        · rw [e3, pg5]
          by_cases c : p = y
          · subst c
            rw [if_pos ⟨rfl, rfl⟩]
            unfold pv
            unfold pk5 at ha
            rcases ha with rfl | rfl | rfl | rfl | rfl
            · simp [e7]
            · simp [e8]
            · simp
            · simp
            · simp
          · rw [if_neg (fun z => c z.2)]
            exact a3 a p ha (by omega)
      rw [e5, i_n y (by omega)]
      refine ⟨fun c => ⟨hv, fun σ12 e12 => ⟨hv, fun d => ?_, fun d => ⟨hv, fun σ29 e29 => ⟨hv, fun σ32 e32 => ⟨hv, fun σ35 e35 => ⟨hv, fun σ38 e38 => ?_⟩⟩⟩⟩⟩⟩, fun c => ⟨hv, fun σ12 e12 => ⟨hv, fun d => ⟨hv, fun σ29 e29 => ⟨hv, fun σ32 e32 => ⟨hv, fun σ35 e35 => ⟨hv, fun σ38 e38 => ?_⟩⟩⟩⟩, fun d => ?_⟩⟩⟩
      · exfalso
        rw [e12] at d
        simp [sI] at d
      · have hc : y % N = k := nI_inj (by omega) (by omega) c
        exact step 2 1 σ38 (by rw [if_pos hc]) (by rw [if_pos hc]) (by rw [e38, e35, e32, e29, e12])
      · have hc : y % N ≠ k := fun z => c (by rw [z])
        exact step 0 0 σ38 (by rw [if_neg hc]) (by rw [if_neg hc]) (by rw [e38, e35, e32, e29, e12])
      · exfalso
        refine d ?_
        rw [e12]
        simp [sI]
  exact ⟨9, L 8 0 σ (by decide) rfl (fun _ _ _ _ => rfl) (fun a p _ hp => by omega)⟩
theorem C_node {σ : Sg} {k N : Nat} (h2 : 2 ≤ N) (h6 : N ≤ 6) (hk : k < 6) (h5 : σ.1 5 k 0 = nI k) (Q : Sg → Prop) (hQ : ∀ σ1, Fm k σ σ1 → NIni N k σ1 → Q σ1) : wp_X3_startAnew σ k (nI N) Q := by
  unfold wp_X3_startAnew
  refine C_X0s _ ?_
  have hA : ∀ a k' f, ¬ (a = 6 ∧ k' = k) → (sL (sI (sI (sI (aTake σ k 0 0 0 0) 6 k 0 0) 6 k 1 0) 6 k 8 0) 6 k 9 0).1 a k' f = σ.1 a k' f ∧ (sL (sI (sI (sI (aTake σ k 0 0 0 0) 6 k 0 0) 6 k 1 0) 6 k 8 0) 6 k 9 0).2.1 a k' f = σ.2.1 a k' f := fun a k' f hn => by
    have e : ∀ x : Nat, ¬ (a = 6 ∧ k' = k ∧ f = x) := fun x z => hn ⟨z.1, z.2.1⟩
    constructor
    · simp only [aTake, sI, sL, e, if_false]
    · simp only [aTake, sI, sL, e, if_false]
  have hB : (sL (sI (sI (sI (aTake σ k 0 0 0 0) 6 k 0 0) 6 k 1 0) 6 k 8 0) 6 k 9 0).1 6 k 0 = 0 ∧ (sL (sI (sI (sI (aTake σ k 0 0 0 0) 6 k 0 0) 6 k 1 0) 6 k 8 0) 6 k 9 0).1 6 k 1 = 0 ∧ (sL (sI (sI (sI (aTake σ k 0 0 0 0) 6 k 0 0) 6 k 1 0) 6 k 8 0) 6 k 9 0).1 6 k 2 = 0 ∧ (sL (sI (sI (sI (aTake σ k 0 0 0 0) 6 k 0 0) 6 k 1 0) 6 k 8 0) 6 k 9 0).1 6 k 3 = 0 ∧ (sL (sI (sI (sI (aTake σ k 0 0 0 0) 6 k 0 0) 6 k 1 0) 6 k 8 0) 6 k 9 0).1 6 k 6 = 0 ∧ (sL (sI (sI (sI (aTake σ k 0 0 0 0) 6 k 0 0) 6 k 1 0) 6 k 8 0) 6 k 9 0).1 6 k 7 = 0 ∧ (sL (sI (sI (sI (aTake σ k 0 0 0 0) 6 k 0 0) 6 k 1 0) 6 k 8 0) 6 k 9 0).1 6 k 8 = 0 ∧ (sL (sI (sI (sI (aTake σ k 0 0 0 0) 6 k 0 0) 6 k 1 0) 6 k 8 0) 6 k 9 0).2.1 6 k 9 = 0 := by
    simp [aTake, sI, sL]
  have hR : (sL (sI (sI (sI (aTake σ k 0 0 0 0) 6 k 0 0) 6 k 1 0) 6 k 8 0) 6 k 9 0).2.2 = σ.2.2 := rfl
  generalize sL (sI (sI (sI (aTake σ k 0 0 0 0) 6 k 0 0) 6 k 1 0) 6 k 8 0) 6 k 9 0 = t at hA hB hR ⊢
  refine C_fillL _ (fun σ4 b1 b2 b3 => ?_)
  refine C_pages h2 h6 hk (by rw [b1, (hA 5 k 0 (by omega)).1]; exact h5) _ (fun σ1 c1 c2 c3 => ?_)
  have n6 : ¬ pk5 6 := by unfold pk5; omega
  refine hQ σ1 ⟨fun a k' f hn => ⟨?_, ?_⟩, ?_⟩ ⟨?_, fun i hi => ?_, c3⟩
  · rw [c2 a k' f (fun z => hn ⟨by have := z.1; unfold pk5 at this; omega, z.2⟩), b1]
    exact (hA a k' f (fun z => hn ⟨by omega, z.2⟩)).1
  · rw [c1, b3, if_neg (fun z => hn ⟨by omega, z.2.1⟩)]
    exact (hA a k' f (fun z => hn ⟨by omega, z.2⟩)).2
  · rw [c1, b2]; exact hR
  · rw [c2 6 k 0 (fun z => n6 z.1), c2 6 k 1 (fun z => n6 z.1), c2 6 k 2 (fun z => n6 z.1), c2 6 k 3 (fun z => n6 z.1), c2 6 k 6 (fun z => n6 z.1), c2 6 k 7 (fun z => n6 z.1), c2 6 k 8 (fun z => n6 z.1), c1, b1, b3, if_neg (by omega)]
    exact hB
  · rw [c1, b3, if_pos ⟨rfl, rfl, hi⟩]
theorem C_start {σ : Sg} {N : Nat} (h2 : 2 ≤ N) (h6 : N ≤ 6) (hV : VN σ) (Q : Sg → Prop) (hQ : ∀ σ1, EqM false σ σ1 → σ1.2.2 = σ.2.2 → VN σ1 → Ini N σ1 → Q σ1) : wp_X4_startAnew σ (nI N) Q := by
  unfold wp_X4_startAnew
  intro σ0 e0
  have hnot : ∀ a k f, ¬ (a = 0 ∧ k = 0 ∧ f = 3) → σ0.1 a k f = σ.1 a k f := fun a k f hn => by
    rw [e0]
    show (if a = 0 ∧ k = 0 ∧ f = 3 then nI N else σ.1 a k f) = _
    rw [if_neg hn]
  have L : ∀ (m y : Nat) (σ' : Sg), y + m = 6 → (∀ a k f, ¬ (6 ≤ a ∧ a ≤ 12) → σ'.1 a k f = σ0.1 a k f ∧ σ'.2.1 a k f = σ0.2.1 a k f) → σ'.2.2 = σ0.2.2 → (∀ k, k < y → NIni N k σ') → lp_X4_startAnew_7 (nI N) Q (m + 1) σ' (nI y) := by
    intro m
    induction m with
    | zero =>
      intro y σ' hy a1 a2 a3
      have hy : y = 6 := by omega
      subst hy
      rw [lp_X4_startAnew_7]
      refine ⟨fun _ σ4 e4 => ?_, fun c => absurd (nI_le (Nat.le_refl 6) (by decide)) c⟩
      refine C_fillI _ (fun σ6 b1 b2 σ9 e9 => ?_)
      rw [ixl0] at e9
      have f9 : ∀ a k f, ¬ (a = 2 ∧ k = 0 ∧ f < 8) → ¬ (a = 3 ∧ k = 0 ∧ f = 1) → σ9.1 a k f = σ'.1 a k f := fun a k f n1 n2 => by
        rw [e9]
        show (if a = 2 ∧ k = 0 ∧ f = 0 then nI N else σ6.1 a k f) = _
        rw [if_neg (fun z => n1 ⟨z.1, z.2.1, by omega⟩), b2, if_neg n1, e4]
        show (if a = 3 ∧ k = 0 ∧ f = 1 then 0 else σ'.1 a k f) = _
        rw [if_neg n2]
      have g9 : σ9.2 = σ'.2 := by rw [e9]; show σ6.2 = _; rw [b1, e4]; rfl
      refine hQ σ9 (fun a ha => ?_) (by rw [g9, a2, e0]; rfl) (fun k hk => ?_) ⟨?_, fun k hk => ?_, fun c h1 h8 => ?_, ?_, ?_⟩
      · have ha : 20 ≤ a := by
          rcases ha with z | z
          · exact z
          · cases z.1
        constructor
        · funext k f
          rw [f9 a k f (by omega) (by omega), (a1 a k f (by omega)).1, hnot a k f (by omega)]
        · funext k f
          rw [g9, (a1 a k f (by omega)).2, e0]
          rfl
      · rw [f9 5 k 0 (by omega) (by omega), (a1 5 k 0 (by omega)).1, hnot 5 k 0 (by omega)]
        exact hV k hk
      · rw [f9 0 0 3 (by omega) (by omega), (a1 0 0 3 (by omega)).1, e0]
        simp [sI]
      · obtain ⟨n1, n2, n3⟩ := a3 k hk
        refine ⟨?_, fun i hi => ?_, fun a p ha hp => ?_⟩
        · rw [f9 6 k 0 (by omega) (by omega), f9 6 k 1 (by omega) (by omega), f9 6 k 2 (by omega) (by omega), f9 6 k 3 (by omega) (by omega), f9 6 k 6 (by omega) (by omega), f9 6 k 7 (by omega) (by omega), f9 6 k 8 (by omega) (by omega), g9]
          exact n1
        · rw [g9]; exact n2 i hi
        · rw [f9 a k p (by unfold pk5 at ha; omega) (by unfold pk5 at ha; omega)]
          exact n3 a p ha hp
      · rw [e9]
        show (if 2 = 2 ∧ 0 = 0 ∧ c = 0 then nI N else σ6.1 2 0 c) = _
        rw [if_neg (by omega), b2, if_pos ⟨rfl, rfl, h8⟩]
      · rw [e9]
        simp [sI]
      · rw [e9]
        show (if 3 = 2 ∧ 0 = 0 ∧ 1 = 0 then nI N else σ6.1 3 0 1) = _
        rw [if_neg (by omega), b2, if_neg (by omega), e4]
        simp [sI]
    | succ m ih =>
      intro y σ' hy a1 a2 a3
      rw [lp_X4_startAnew_7, nI_p1, i_n y (by omega)]
      refine ⟨fun c => absurd c (nI_ge (b := 6) (by omega) (by omega)), fun _ => ⟨vp_n (by omega) (by omega), ?_⟩⟩
      refine C_node h2 h6 (by omega) (by rw [(a1 5 y 0 (by omega)).1, hnot 5 y 0 (by omega)]; exact hV y (by omega)) _ (fun σ1 hF hI => ?_)
      refine ih (y + 1) σ1 (by omega) (fun a k f hn => ?_) (by rw [hF.2]; exact a2) (fun k hk => ?_)
      · have := hF.1 a k f (fun z => hn z.1)
        rw [this.1, this.2]
        exact a1 a k f hn
      · by_cases c : k = y
        · subst c; exact hI
        · obtain ⟨n1, n2, n3⟩ := a3 k (by omega)
          have fr := fun a f => hF.1 a k f (fun z => c z.2)
          refine ⟨?_, fun i hi => ?_, fun a p ha hp => ?_⟩
          · rw [(fr 6 0).1, (fr 6 1).1, (fr 6 2).1, (fr 6 3).1, (fr 6 6).1, (fr 6 7).1, (fr 6 8).1, (fr 6 9).2]
            exact n1
          · rw [(fr 11 i).2]; exact n2 i hi
          · rw [(fr a p).1]; exact n3 a p ha hp
  exact ⟨7, L 6 0 σ0 (by decide) (fun _ _ _ _ => ⟨rfl, rfl⟩) rfl (fun k hk => by omega)⟩
def noQ : Qu := fun _ _ => []
theorem Ini.rc {N : Nat} {σ : Sg} (h : Ini N σ) (hV : VN σ) (hR : (∀ j, j < 32 → σ.2.2 j < 32) ∧ ∀ i j, i < 32 → j < 32 → σ.2.2 i = σ.2.2 j → i = j) : RC false σ σ [] noQ σ := by
  refine ⟨fun _ _ => ⟨rfl, rfl⟩, AgS.rfl', hV, ⟨⟨rfl, rfl⟩, hR⟩, ⟨by simp, ?_, fun j l hj => by simp at hj⟩, fun k p hk hp => ⟨by simp [noQ], ?_, fun i e hi => by simp [noQ] at hi⟩⟩
  · rw [h.2.2.2.2]; rfl
  · rw [(h.2.1 k hk).2.2 12 p (by unfold pk5; omega) hp]
    simp [pv, noQ]
    rfl
theorem Ini.inv {N : Nat} {σ : Sg} (h2 : 2 ≤ N) (h6 : N ≤ 6) (h : Ini N σ) : Inv N (σ, [], noQ) 0 [] := by
  have hw : ∀ k, k < 6 → wt σ k = 0 := fun k hk => by unfold wt; rw [(h.2.1 k hk).1.2.1]; rfl
  have hp0 : ∀ k, k < 6 → pg σ k = 0 := fun k hk => by unfold pg; rw [(h.2.1 k hk).1.2.2.1]; rfl
  have hw0 : ∀ k, k < 6 → wd σ k = 0 := fun k hk => by unfold wd; rw [(h.2.1 k hk).1.2.2.2.1]; rfl
  have ha0 : ∀ k, k < 6 → an σ k = 0 := fun k hk => by unfold an; rw [(h.2.1 k hk).1.2.2.2.2.1]; rfl
  have h8 : ∀ k p, k < 6 → p < 8 → σ.1 8 k p = 1 → p % N = k := fun k p hk hp z => by
    rw [(h.2.1 k hk).2.2 8 p (by unfold pk5; omega) hp] at z
    unfold pv at z
    simp at z
    exact z
  refine ⟨⟨⟨h2, h6, h.1⟩, fun k hk => ?_, fun k p hk hp => ?_⟩, ⟨fun l hl => by simp at hl, List.Pairwise.nil, fun _ _ _ _ => Or.inl rfl, fun _ _ e _ _ he => by simp [noQ] at he, fun _ _ _ _ e _ _ _ _ _ he => by simp [noQ] at he, fun _ _ _ _ => List.Pairwise.nil, fun e he => by simp at he, List.Pairwise.nil⟩, ⟨fun k p hk hp z _ => ?_, fun k hk z => ?_, fun k k' p hk hk' hp z z' => ?_, fun k hk z => ?_, fun l hl => by simp at hl, List.Pairwise.nil⟩, fun k hk z => ?_⟩
  · obtain ⟨⟨n0, n1, n2, n3, n6, n7, n8, n9⟩, -, -⟩ := h.2.1 k hk
    show TyK N σ k
    unfold TyK
    rw [hw k hk, hp0 k hk, hw0 k hk, ha0 k hk, n0, n1, n2, n3, n6, n7]
    exact ⟨⟨rfl, by omega⟩, ⟨rfl, by omega⟩, ⟨rfl, by omega⟩, ⟨rfl, by omega⟩, fun _ => rfl, Or.inl rfl, fun z => absurd rfl z, Or.inl rfl⟩
  · have n := (h.2.1 k hk).2.2
    have hlt : p % N < N := Nat.mod_lt _ (by omega)
    show TyP N σ k p
    unfold TyP gs
    refine ⟨?_, ?_, ?_, fun z => ?_, ?_⟩
    · rw [n 7 p (by unfold pk5; omega) hp]
      unfold pv
      simp only [if_true]
      split
      · exact Or.inr (Or.inr rfl)
      · exact Or.inl rfl
    · rw [n 8 p (by unfold pk5; omega) hp]
      unfold pv
      simp
      omega
    · rw [n 9 p (by unfold pk5; omega) hp]
      have : pv N k 9 p = nI (p % N) := by simp [pv]
      rw [this, i_n (p % N) (by omega)]
      exact ⟨rfl, hlt⟩
    · have := h8 k p hk hp z
      omega
    · rw [n 10 p (by unfold pk5; omega) hp]
      have : pv N k 10 p = 0 := by simp [pv]
      rw [this]
      exact b_0 _
  · have := h8 k p hk hp z
    show σ.1 7 k p ≠ 0
    rw [(h.2.1 k hk).2.2 7 p (by unfold pk5; omega) hp]
    unfold pv
    rw [if_pos rfl, if_pos this]
    decide
  · rw [show wt (σ, [], noQ).1 k = 0 from hw k hk] at z; omega
  · have a := h8 k p hk hp z
    have b := h8 k' p hk' hp z'
    omega
  · rw [show wt (σ, [], noQ).1 k = 0 from hw k hk] at z; omega
  · rw [show wt (σ, [], noQ).1 k = 0 from hw k hk] at z; omega
/-- the reference's start -/
def MIni (N : Nat) (σ : Sg) : Prop := σ.1 20 0 0 = nI N ∧ (∀ j, j < 48 → σ.1 21 0 j = pv N (j / 8) 7 (j % 8) ∧ σ.1 22 0 j = pv N (j / 8) 8 (j % 8) ∧ σ.1 23 0 j = pv N (j / 8) 9 (j % 8) ∧ σ.1 24 0 j = 0 ∧ σ.1 27 0 j = 0) ∧ (∀ j, j < 192 → σ.2.1 25 0 j = 0) ∧ (∀ k, k < 6 → σ.1 28 0 k = 0 ∧ σ.1 33 0 k = 0 ∧ σ.1 34 0 k = 0 ∧ σ.1 35 0 k = 0 ∧ σ.1 36 0 k = 0 ∧ σ.2.1 37 0 k = 0) ∧ (∀ c, c < 8 → σ.1 41 0 c = 0) ∧ σ.1 20 0 20 = 0
theorem MIni.rm {N : Nat} {τ σ : Sg} (h2 : 2 ≤ N) (h : Ini N τ) (hm : MIni N σ) : RM false σ τ [] noQ σ := by
  obtain ⟨m0, m1, m2, m3, m4, m5⟩ := hm
  refine ⟨⟨fun _ _ => ⟨rfl, rfl⟩, rfl⟩, fun k p hk hp => ?_, fun k i hk hi => ?_, fun k hk => ⟨?_, fun z => ?_⟩, ⟨?_, fun f h1 h8 => ?_⟩, ⟨?_, by simp, fun j l hj => by simp at hj⟩, fun k p hk hp => ⟨by simp [noQ], ?_, fun i e hi => by simp [noQ] at hi⟩⟩
  · have n := (h.2.1 k hk).2.2
    obtain ⟨a, b, c, d, e⟩ := m1 (8 * k + p) (by omega)
    have e1 : (8 * k + p) / 8 = k := by omega
    have e2 : (8 * k + p) % 8 = p := by omega
    rw [e1, e2] at a b c
    refine ⟨?_, ?_, ?_, ?_⟩
    · rw [a, n 7 p (by unfold pk5; omega) hp]
    · rw [b, n 8 p (by unfold pk5; omega) hp]
    · rw [c, n 9 p (by unfold pk5; omega) hp]
    · rw [d, n 10 p (by unfold pk5; omega) hp]
      simp [pv]
  · rw [m2 _ (by omega), (h.2.1 k hk).2.1 i hi]
  · obtain ⟨⟨n0, n1, n2, n3, n6, n7, n8, n9⟩, -, -⟩ := h.2.1 k hk
    obtain ⟨a, b, c, d, e, f⟩ := m3 k hk
    rw [a, b, c, d, e, f, n0, n1, n6, n7, n8, n9]
    exact ⟨rfl, rfl, rfl, rfl, rfl, rfl⟩
  · rw [(h.2.1 k hk).1.1] at z
    exact absurd z (by decide)
  · rw [m0, h.1]
  · rw [m4 f h8, h.2.2.1 f h1 h8]
  · rw [m5]; rfl
  · rw [(m1 (8 * k + p) (by omega)).2.2.2.2]
    rfl
