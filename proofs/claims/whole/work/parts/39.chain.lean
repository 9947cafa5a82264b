/-! PURE: owner and chain -/
def ow (τ : Sg) (p : Nat) : Nat → Nat → Int32
  | 0, _ => -1
  | m + 1, y => if τ.1 8 y p = 0 then ow τ p m (y + 1) else nI y
theorem nI_m1 {n : Nat} (h : n < 2147483648) : nI n ≠ -1 := fun e => by
  have := nI_pos h
  rw [e] at this
  exact this (by decide)
theorem ow_own {τ : Sg} {p : Nat} : ∀ (m y n : Nat), y + m ≤ 6 → n < 6 → ow τ p m y = nI n → τ.1 8 n p ≠ 0
  | 0, y, n, _, hn, h => absurd h.symm (nI_m1 (by omega))
  | m + 1, y, n, hy, hn, h => by
    unfold ow at h
    split at h
    · exact ow_own m (y + 1) n (by omega) hn h
    · rename_i c
      have : y = n := nI_inj (by omega) (by omega) h
      rw [← this]
      exact c
theorem ow_un {τ : Sg} {p n : Nat} (h : τ.1 8 n p ≠ 0) : ∀ (m y : Nat), (∀ k, k < y + m → τ.1 8 k p ≠ 0 → k = n) → y ≤ n → n < y + m → ow τ p m y = nI n
  | 0, y, _, h1, h2 => by omega
  | m + 1, y, hu, h1, h2 => by
    unfold ow
    by_cases c : τ.1 8 y p = 0
    · rw [if_pos c]
      have : y ≠ n := fun e => h (e ▸ c)
      exact ow_un h m (y + 1) (fun k hk => hu k (by omega)) (by omega) (by omega)
    · rw [if_neg c, hu y (by omega) c]
theorem C_owner {N : Nat} {τ σ : Sg} {ls : List Lt} {qs : Qu} (h : Al N τ ls qs σ) {x1 : Int32} (Q : Sg → Int32 → Prop) (h1 : ∀ p, p < 8 → x1 = nI p → Q σ (ow τ p N 0)) (h0 : ¬ inR x1 8 → Q σ (-1)) : wp_X4_owner σ x1 Q := by
  obtain ⟨⟨h2, h6⟩, eN, eM⟩ := h.n
  unfold wp_X4_owner
  refine C_isPage (fun a => ⟨fun c => absurd c (by decide), fun _ => ?_⟩) (fun a => ⟨fun _ => h0 a, fun c => absurd rfl c⟩)
  obtain ⟨p, hp, rfl⟩ := a
  have L : ∀ (m y : Nat), y + m = N → Q σ (ow τ p m y) → lp_X4_owner_11 (nI p) Q (m + 1) σ (nI y) := by
    intro m
    induction m with
    | zero =>
      intro y hy hq
      rw [lp_X4_owner_11, eN]
      exact ⟨fun _ => hq, fun c => absurd (nI_le (by omega) (by omega)) c⟩
    | succ m ih =>
      intro y hy hq
      rw [lp_X4_owner_11, eN, nI_p1, i_n y (by omega), i_n p (by omega), h.1.2.1.a8]
      unfold ow at hq
      refine ⟨fun c => absurd c (nI_ge (by omega) (by omega)), fun _ => ⟨vp_n (by omega) (by omega), vp_n (by omega) (by omega), fun c => ?_, fun c => ?_⟩⟩
      · rw [if_pos c] at hq
        exact ih (y + 1) (by omega) hq
      · rw [if_neg c] at hq
        exact hq
  exact ⟨N + 1, L N 0 (by omega) (h1 p hp rfl)⟩
theorem M_owner {N : Nat} {τ σ : Sg} {ls : List Lt} {qs : Qu} (h : Al N τ ls qs σ) {x1 : Int32} (Q : Sg → Int32 → Prop) (h1 : ∀ p, p < 8 → x1 = nI p → Q σ (ow τ p N 0)) (h0 : ¬ inR x1 8 → Q σ (-1)) : wp_X5_owner σ x1 Q := by
  obtain ⟨⟨h2, h6⟩, eN, eM⟩ := h.n
  unfold wp_X5_owner
  by_cases a : inR x1 8
  · obtain ⟨p, hp, rfl⟩ := id a
    have L : ∀ (m y : Nat), y + m = N → Q σ (ow τ p m y) → lp_X5_owner_2 (nI p) Q (m + 1) σ (nI y) := by
      intro m
      induction m with
      | zero =>
        intro y hy hq
        rw [lp_X5_owner_2, eM]
        exact ⟨fun _ => hq, fun c => absurd (nI_le (by omega) (by omega)) c⟩
      | succ m ih =>
        intro y hy hq
        rw [lp_X5_owner_2, eM, nI_p1]
        unfold ow at hq
        refine ⟨fun c => absurd c (nI_ge (by omega) (by omega)), fun _ => ?_⟩
        refine M_isPage (fun _ => ⟨fun c => absurd c (by decide), fun _ => ?_⟩) (fun z => absurd a z)
        unfold wp_X5_place
        rw [pl_n]
        refine ⟨vp_n (by omega) (by omega), ?_⟩
        rw [i_n (8 * y + p) (by omega), (h.2.1.2.1 y p (by omega) hp).2.1]
        refine ⟨fun c => ?_, fun c => ?_⟩
        · rw [if_pos c] at hq
          exact ih (y + 1) (by omega) hq
        · rw [if_neg c] at hq
          exact hq
    exact ⟨N + 1, L N 0 (by omega) (h1 p hp rfl)⟩
  · refine ⟨1, ?_⟩
    rw [lp_X5_owner_2, eM]
    refine ⟨fun c => absurd c (nI_ge (a := 0) (by omega) (by omega)), fun _ => ?_⟩
    exact M_isPage (fun z => absurd z a) (fun _ => ⟨fun _ => h0 a, fun c => absurd rfl c⟩)
theorem q_owner {N : Nat} {τ σ : Sg} {ls : List Lt} {qs : Qu} (h : Al N τ ls qs σ) {x1 : Int32} {V : Prop} {K : Sg → Prop} (hV : V) (hK : K σ) : wp_X4_owner σ x1 (fun σ1 r1 => V ∧ wp_X5_owner σ1 x1 (fun σ2 r2 => (r1 = r2 → K σ2) ∧ (¬ (r1 = r2) → False))) := by
  refine C_owner h _ (fun p hp e => ⟨hV, M_owner h _ (fun p' hp' e' => ?_) (fun z => absurd ⟨p, hp, e⟩ z)⟩) (fun a => ⟨hV, M_owner h _ (fun p hp e => absurd ⟨p, hp, e⟩ a) (fun _ => eqK rfl hK)⟩)
  have : p = p' := nI_inj (by omega) (by omega) (e.symm.trans e')
  subst this
  exact eqK rfl hK
def itg (g : Nat → Nat) : Nat → Nat → Nat
  | 0, k => k
  | n + 1, k => itg g n (g k)
theorem itg_add (g : Nat → Nat) (a : Nat) : ∀ (b k : Nat), itg g (a + b) k = itg g a (itg g b k)
  | 0, k => rfl
  | b + 1, k => itg_add g a b (g k)
theorem itg_lt {g : Nat → Nat} {N : Nat} (hg : ∀ k, k < N → g k < N) : ∀ (i k : Nat), k < N → itg g i k < N
  | 0, k, h => h
  | i + 1, k, h => itg_lt hg i (g k) (hg k h)
theorem itg_pig {g : Nat → Nat} {N k : Nat} (hg : ∀ k, k < N → g k < N) (hk : k < N) (e : Nat → Bool) (h : ∀ i, i < N → e (itg g i k) = false) : e (itg g N k) = false := by
  have hex : ∃ i j, i < j ∧ j ≤ N ∧ itg g i k = itg g j k := by
    refine Classical.byContradiction (fun hno => ?_)
    have := nd_len N ((List.range (N + 1)).map (fun i => itg g i k)) ?_ ?_
    · simp at this
      omega
    · rw [List.pairwise_map]
      refine (List.pairwise_lt_range (n := N + 1)).imp_of_mem (fun {a b} _ hb hab heq => hno ⟨a, b, hab, ?_, heq⟩)
      have := List.mem_range.mp hb
      omega
    · intro x hx
      obtain ⟨i, _, rfl⟩ := List.mem_map.mp hx
      exact itg_lt hg i k hk
  obtain ⟨i, j, hij, hj, heq⟩ := hex
  have e1 : itg g N k = itg g (N - j + i) k := by
    rw [itg_add g (N - j) i k, heq, ← itg_add g (N - j) j k]
    congr 1
    omega
  rw [e1]
  exact h _ (by omega)
def chV (e : Nat → Bool) (g : Nat → Nat) : Nat → Nat → Nat → Int32
  | 0, _, _ => -1
  | m + 1, k, y => if e k = true then nI y else chV e g m (g k) (y + 1)
theorem chV_ext (e : Nat → Bool) (g : Nat → Nat) : ∀ (m k y : Nat), ((∀ i, i < m → e (itg g i k) = false) → e (itg g m k) = false) → chV e g (m + 1) k y = chV e g m k y
  | 0, k, y, h => by
    have := h (fun i hi => by omega)
    show (if e k = true then nI y else -1) = -1
    rw [if_neg (by rw [show e k = false from this]; decide)]
  | m + 1, k, y, h => by
    show (if e k = true then nI y else chV e g (m + 1) (g k) (y + 1)) = (if e k = true then nI y else chV e g m (g k) (y + 1))
    by_cases c : e k = true
    · rw [if_pos c, if_pos c]
    · rw [if_neg c, if_neg c]
      refine chV_ext e g m (g k) (y + 1) (fun h1 => h (fun i hi => ?_))
      cases i with
      | zero => show e k = false; simpa using c
      | succ i => exact h1 i (by omega)
def eb (τ : Sg) (p k : Nat) : Bool := decide (τ.1 8 k p ≠ 0 ∨ (τ.1 6 k 1 = 2 ∧ τ.1 6 k 2 = nI p))
theorem C_ends {σ τ : Sg} (h8 : σ.1 8 = τ.1 8) (h6 : σ.1 6 = τ.1 6) {k p : Nat} (hp : p < 8) {Q : Sg → Int32 → Prop} (h1 : eb τ p k = true → Q σ 1) (h0 : eb τ p k = false → Q σ 0) : wp_X4_endsChain σ k (nI p) Q := by
  unfold wp_X4_endsChain
  rw [i_n p (by omega), h8]
  refine ⟨vp_n (by omega) (by omega), fun c => ?_, fun c => h1 (by unfold eb; simp [c])⟩
  refine C_awaits (fun d => ⟨fun z => absurd z (by decide), fun _ => h1 ?_⟩) (fun d => ⟨fun _ => h0 ?_, fun z => absurd rfl z⟩)
  · rw [h6] at d
    unfold eb
    simp only [decide_eq_true_eq]
    exact Or.inr d
  · rw [h6] at d
    unfold eb
    simp only [decide_eq_false_iff_not]
    intro z
    rcases z with z | z
    · exact z c
    · exact d z
theorem q_chain {N : Nat} {τ σ : Sg} {ls : List Lt} {qs : Qu} (h : Al N τ ls qs σ) {x1 x2 : Int32} {V V2 : Prop} {K : Sg → Prop} (hV : V) (hV2 : V2) (hK : K σ) : wp_X4_chain σ x1 x2 (fun σ1 r1 => V ∧ (V2 ∧ wp_X5_chain σ1 x1 x2 (fun σ2 r2 => (r1 = r2 → K σ2) ∧ (¬ (r1 = r2) → False)))) := by
  obtain ⟨⟨h2, h6⟩, eN, eM⟩ := h.n
  have hlen := h.2.2.1.len
  simp only at hlen
  unfold wp_X4_chain
  have hno : ¬ (inR x1 N ∧ inR x2 8) → wp_X5_chain σ x1 x2 (fun σ2 r2 => (-1 = r2 → K σ2) ∧ (¬ (-1 = r2) → False)) := fun hn => by
    unfold wp_X5_chain
    exact M_isPlace eM h6 (fun a b => absurd ⟨a, b⟩ hn) (fun _ => ⟨fun _ => eqK rfl hK, fun c => absurd rfl c⟩)
  refine C_isNode eN h6 (fun a1 => ⟨fun c => absurd c (by decide), fun _ => ?_⟩) (fun a1 => ⟨fun _ => ⟨hV, hV2, hno (fun z => a1 z.1)⟩, fun c => absurd rfl c⟩)
  refine C_isPage (fun a2 => ⟨fun c => absurd c (by decide), fun _ => ⟨a1.vp h6 (by omega), ?_⟩⟩) (fun a2 => ⟨fun _ => ⟨hV, hV2, hno (fun z => a2 z.2)⟩, fun c => absurd rfl c⟩)
  obtain ⟨k, hk, rfl⟩ := id a1
  obtain ⟨p, hp, rfl⟩ := id a2
  rw [i_n k (by omega)]
  have hg : ∀ j, j < N → τ.1 9 j p = nI (gs τ j p) ∧ gs τ j p < N := fun j hj => (h.2.2.1.1.2.2 j p (by omega) hp).2.2.1
  -- the class
  have LC : ∀ (Q : Sg → Int32 → Prop) (m y j : Nat), y + m = N → j < N → Q σ (chV (eb τ p) (fun j => gs τ j p) m j y) → lp_X4_chain_27 (nI k) (nI p) Q (m + 1) σ j (nI y) := by
    intro Q m
    induction m with
    | zero =>
      intro y j hy hj hq
      rw [lp_X4_chain_27, eN]
      exact ⟨fun _ => hq, fun c => absurd (nI_le (by omega) (by omega)) c⟩
    | succ m ih =>
      intro y j hy hj hq
      rw [lp_X4_chain_27, eN, nI_p1, i_n p (by omega)]
      refine ⟨fun c => absurd c (nI_ge (by omega) (by omega)), fun _ => ?_⟩
      refine C_ends h.1.2.1.a8 h.1.2.1.a6 hp (fun c => ⟨fun z => absurd z (by decide), fun _ => ?_⟩) (fun c => ⟨fun _ => ?_, fun z => absurd rfl z⟩)
      · have : chV (eb τ p) (fun j => gs τ j p) (m + 1) j y = nI y := if_pos c
        rw [this] at hq
        exact hq
      · have : chV (eb τ p) (fun j => gs τ j p) (m + 1) j y = chV (eb τ p) (fun j => gs τ j p) m (gs τ j p) (y + 1) := if_neg (by rw [c]; decide)
        rw [this] at hq
        rw [h.1.2.1.a9, (hg j hj).1, i_n (gs τ j p) (by have := (hg j hj).2; omega)]
        exact ⟨vp_n (by omega) (by omega), vp_n (by have := (hg j hj).2; omega) (by omega), ih (y + 1) _ (by omega) (hg j hj).2 hq⟩
  refine ⟨N + 1, LC _ N 0 k (by omega) hk ⟨hV, hV2, ?_⟩⟩
  -- the reference
  have hpig : chV (eb τ p) (fun j => gs τ j p) (N + 1) k 0 = chV (eb τ p) (fun j => gs τ j p) N k 0 := chV_ext _ _ N k 0 (fun hh => itg_pig (fun j hj => (hg j hj).2) hk (eb τ p) hh)
  rw [← hpig]
  obtain ⟨⟨-, hKy, hPy⟩, hT, ⟨o1, o2, o3, o4, o5, o6⟩, -⟩ := h.2.2.1
  simp only at hKy hPy hT o1 o2 o3 o4 o5 o6
  have ml := h.2.1.2.2.2.2.2.1
  have hG2 : ∀ (y3 : Int32) (n : Nat), n < N → (∀ n, n < N → nI n = y3 → eb τ p n = true) → (∀ n, n < N → τ.1 8 n p ≠ 0 → nI n = y3 ∨ (τ.1 6 n 1 = 2 ∧ τ.1 6 n 2 = nI p)) → (nI n = y3 ∨ (τ.1 6 n 1 = 2 ∧ τ.1 6 n 2 = nI p) ↔ eb τ p n = true) := fun y3 n hn g1 g2 => by
    refine ⟨fun z => ?_, fun z => ?_⟩
    · rcases z with z | z
      · exact g1 n hn z
      · unfold eb; simp only [decide_eq_true_eq]; exact Or.inr z
    · unfold eb at z
      simp only [decide_eq_true_eq] at z
      rcases z with z | z
      · exact g2 n hn z
      · exact Or.inr z
  have L84 : ∀ (Q : Sg → Int32 → Prop) (y3 : Int32), (∀ n, n < N → nI n = y3 → eb τ p n = true) → (∀ n, n < N → τ.1 8 n p ≠ 0 → nI n = y3 ∨ (τ.1 6 n 1 = 2 ∧ τ.1 6 n 2 = nI p)) → ∀ (m y n : Nat), y + m = N + 1 → n < N → Q σ (chV (eb τ p) (fun j => gs τ j p) m n y) → lp_X5_chain_84 (nI k) (nI p) Q (m + 1) σ y3 (nI n) (nI y) := by
    intro Q y3 g1 g2 m
    induction m with
    | zero =>
      intro y n hy hn hq
      have hlt : nI N < nI y := nI_lt (by omega) (by omega)
      have hq : Q σ (-1) := hq
      have hv : vp_in (nI n) 6 := vp_n (by omega) (by omega)
      rw [lp_X5_chain_84, eM]
      have hlast : ∀ {P : Prop}, (nI N < nI y → Q σ (-1)) ∧ (¬ (nI N < nI y) → P) := ⟨fun _ => hq, fun c => absurd hlt c⟩
      exact ⟨fun _ => hlast, fun _ => ⟨hv, fun _ => ⟨hv, fun _ => hlast, fun _ => hlast⟩, fun _ => hlast⟩⟩
    | succ m ih =>
      intro y n hy hn hq
      have hlt : ¬ nI N < nI y := fun z => by
        rw [Int32.lt_iff_toInt_lt, nI_toInt (by omega), nI_toInt (by omega)] at z
        omega
      have hv : vp_in (nI n) 6 := vp_n (by omega) (by omega)
      have hiff := hG2 y3 n hn g1 g2
      rw [lp_X5_chain_84, eM, nI_p1, i_n n (by omega)]
      have hend : eb τ p n = true → (nI N < nI y → Q σ (-1)) ∧ (¬ (nI N < nI y) → Q σ (nI y)) := fun c => by
        have : chV (eb τ p) (fun j => gs τ j p) (m + 1) n y = nI y := if_pos c
        rw [this] at hq
        exact ⟨fun z => absurd z hlt, fun _ => hq⟩
      have hgo : ¬ eb τ p n = true → (nI N < nI y → Q σ (-1)) ∧ (¬ (nI N < nI y) → wp_X5_place σ (nI n) (nI p) (fun σ18 r19 => vp_in r19 48 ∧ lp_X5_chain_84 (nI k) (nI p) Q (m + 1) σ18 y3 (σ18.1 23 0 (ix r19)) (nI (y + 1)))) := fun c => by
        have : chV (eb τ p) (fun j => gs τ j p) (m + 1) n y = chV (eb τ p) (fun j => gs τ j p) m (gs τ n p) (y + 1) := if_neg c
        rw [this] at hq
        refine ⟨fun z => absurd z hlt, fun _ => ?_⟩
        unfold wp_X5_place
        rw [pl_n]
        refine ⟨vp_n (by omega) (by omega), ?_⟩
        rw [i_n (8 * n + p) (by omega), (h.2.1.2.1 n p (by omega) hp).2.2.1, (hg n hn).1]
        exact ih (y + 1) _ (by omega) (hg n hn).2 hq
      obtain ⟨⟨m28, -⟩, mh⟩ := h.2.1.2.2.2.1 n (by omega)
      rw [m28]
      refine ⟨fun c => hend (hiff.mp (Or.inl c)), fun c => ⟨hv, fun d => ⟨hv, ?_⟩, fun d => hgo (fun z => ?_)⟩⟩
      · obtain ⟨y1, y2, y3', y4, y5, y6, y7, y8⟩ := hKy n (by omega)
        have hw : wt τ n = 2 := nI_inj (b := 2) (by omega) (by omega) (y1.1.symm.trans d)
        have m29 := (mh (y7 (by rw [hw]; omega)).1).1
        rw [m29]
        refine ⟨fun e => hend (hiff.mp (Or.inr ⟨d, e⟩)), fun e => hgo (fun z => ?_)⟩
        rcases hiff.mpr z with q | q
        · exact c q
        · exact e q.2
      · rcases hiff.mpr z with q | q
        · exact c q
        · exact d q.1
  have L20 : ∀ (Q : Sg → Int32 → Prop), Q σ (chV (eb τ p) (fun j => gs τ j p) (N + 1) k 0) → ∀ (m y : Nat) (y3 : Int32), y + m = ls.length → (∀ n, n < N → nI n = y3 → eb τ p n = true) → (∀ n, n < N → τ.1 8 n p ≠ 0 → nI n = y3 ∨ (τ.1 6 n 1 = 2 ∧ τ.1 6 n 2 = nI p)) → lp_X5_chain_20 (nI k) (nI p) Q (m + 1) σ y3 (nI y) := by
    intro Q hq m
    induction m with
    | zero =>
      intro y y3 hy g1 g2
      rw [lp_X5_chain_20, ml.1]
      exact ⟨fun _ => ⟨N + 2, L84 Q y3 g1 g2 (N + 1) 0 k (by omega) hk hq⟩, fun c => absurd (nI_le (by omega) (by omega)) c⟩
    | succ m ih =>
      intro y y3 hy g1 g2
      have hl : ls[y]? = some ls[y] := List.getElem?_eq_getElem (by omega)
      generalize ls[y] = l at hl
      obtain ⟨⟨m0, m1, m2, m3, m4, m5⟩, -⟩ := ml.2.2 y l hl
      have hlm : l ∈ ls := List.mem_of_getElem? hl
      have hlw := hT.1 l hlm
      obtain ⟨l1, l2, l3, l4, l5, l6, l7, l8, l9, l10⟩ := hlw
      rw [lp_X5_chain_20, ml.1, nI_p1, nI_lit7, nI_p2, nI_p3, i_n (7 * y) (by omega), i_n (7 * y + 2) (by omega), i_n (7 * y + 3) (by omega), m0, m2, m3]
      refine ⟨fun c => absurd c (nI_ge (by omega) (by omega)), fun _ => ⟨vp_n (by omega) (by omega), fun c4 => ⟨vp_n (by omega) (by omega), fun cp => ⟨vp_n (by omega) (by omega), ?_⟩, fun _ => ih (y + 1) y3 (by omega) g1 g2⟩, fun _ => ih (y + 1) y3 (by omega) g1 g2⟩⟩
      have k4 : lk l = 4 := nI_inj (b := 4) (by omega) (by omega) c4
      have kp : lp l = p := nI_inj (by omega) (by omega) cp
      rw [tid_34' (Or.inr k4), k4] at l7
      rw [tid_34' (Or.inr k4)] at l8
      have hw : wt τ (lt l) = 2 := l7
      have hpg : pg τ (lt l) = p := by rw [← kp]; exact l8
      obtain ⟨y1, y2, -⟩ := hKy (lt l) (by omega)
      refine ih (y + 1) (nI (lt l)) (by omega) (fun n hn e => ?_) (fun n hn e => ?_)
      · have : n = lt l := nI_inj (by omega) (by omega) e
        rw [this]
        unfold eb
        simp only [decide_eq_true_eq]
        refine Or.inr ⟨?_, ?_⟩
        · rw [y1.1, hw]; rfl
        · rw [y2.1, hpg]
      · have := o5 l hlm k4 n (by omega)
        rw [kp] at this
        exact absurd this e
  unfold wp_X5_chain
  refine M_isPlace eM h6 (fun _ _ => ⟨fun c => absurd c (by decide), fun _ => ?_⟩) (fun z => absurd ⟨a1, a2⟩ z)
  refine M_owner h _ (fun p' hp' e' => ?_) (fun z => absurd a2 z)
  have : p = p' := nI_inj (by omega) (by omega) e'
  subst this
  refine ⟨ls.length + 1, L20 _ (eqK rfl hK) ls.length 0 _ (by omega) (fun n hn e => ?_) (fun n hn e => Or.inl ?_)⟩
  · have := ow_own N 0 n (by omega) (by omega) e.symm
    unfold eb
    simp only [decide_eq_true_eq]
    exact Or.inl this
  · refine (ow_un e N 0 (fun j hj z => ?_) (by omega) (by omega)).symm
    have a : τ.1 8 j p = 1 := (hPy j p (by omega) hp).2.1.resolve_left z
    have b : τ.1 8 n p = 1 := (hPy n p (by omega) hp).2.1.resolve_left e
    exact o3 j n p (by omega) (by omega) hp a b
