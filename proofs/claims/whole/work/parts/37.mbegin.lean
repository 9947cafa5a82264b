/-! PURE: the reference's begin; what else is kept -/
theorem mg5 {σ : Sg} {y : Nat} {v1 v2 v3 : Int32} (a k' f : Nat) : (sI (sI (sI (sI (sI σ 22 0 y v2) 21 0 y v1) 23 0 y v3) 24 0 y 0) 27 0 y 0).1 a k' f = if k' = 0 ∧ f = y then (if a = 27 then 0 else if a = 24 then 0 else if a = 23 then v3 else if a = 21 then v1 else if a = 22 then v2 else σ.1 a k' f) else σ.1 a k' f := by
  by_cases c : k' = 0 ∧ f = y
  · obtain ⟨rfl, rfl⟩ := c
    simp [sI]
  · simp [sI, c]
def P1 (N : Nat) (σ : Sg) (n : Nat) : Prop := σ.1 20 0 0 = nI N ∧ ∀ j, j < n → σ.1 21 0 j = pv N (j / 8) 7 (j % 8) ∧ σ.1 22 0 j = pv N (j / 8) 8 (j % 8) ∧ σ.1 23 0 j = pv N (j / 8) 9 (j % 8) ∧ σ.1 24 0 j = 0 ∧ σ.1 27 0 j = 0
def P2 (σ : Sg) (n : Nat) : Prop := ∀ j, j < n → σ.2.1 25 0 j = 0
def P3 (σ : Sg) (n : Nat) : Prop := ∀ k, k < n → σ.1 28 0 k = 0 ∧ σ.1 33 0 k = 0 ∧ σ.1 34 0 k = 0 ∧ σ.1 35 0 k = 0 ∧ σ.1 36 0 k = 0 ∧ σ.2.1 37 0 k = 0
theorem P1.o {N n : Nat} {σ σ1 : Sg} (h : P1 N σ n) (e0 : σ1.1 20 = σ.1 20) (e1 : σ1.1 21 = σ.1 21) (e2 : σ1.1 22 = σ.1 22) (e3 : σ1.1 23 = σ.1 23) (e4 : σ1.1 24 = σ.1 24) (e7 : σ1.1 27 = σ.1 27) : P1 N σ1 n := by
  unfold P1
  rw [e0, e1, e2, e3, e4, e7]
  exact h
theorem P3.i {σ : Sg} {y : Nat} (h : P3 σ y) : P3 (sL (sI (sI (sI (sI (sI σ 28 0 y 0) 33 0 y 0) 34 0 y 0) 35 0 y 0) 36 0 y 0) 37 0 y 0) (y + 1) := fun k hk => by
  by_cases c : k = y
  · subst c
    simp [sI, sL]
  · have := h k (by omega)
    simp [sI, sL, c]
    exact this
theorem M_begin {σ : Sg} {N : Nat} (h2 : 2 ≤ N) (h6 : N ≤ 6) (Q : Sg → Int32 → Prop) (hQ : ∀ σ1, EqC false σ σ1 → MIni N σ1 → Q σ1 1) : wp_X5_begin σ (nI N) Q := by
  have L4 : ∀ (m y : Nat) (σ' : Sg), y + m = 8 → EqC false σ σ' → P1 N σ' 48 → P2 σ' 192 → P3 σ' 6 → (∀ c, c < y → σ'.1 41 0 c = 0) → lp_X5_begin_181 (nI N) Q (m + 1) σ' (nI y) := by
    intro m
    induction m with
    | zero =>
      intro y σ' hy hE p1 p2 p3 p4
      have hy : y = 8 := by omega
      subst hy
      rw [lp_X5_begin_181]
      refine ⟨fun _ σ9 e9 => hQ σ9 (by rw [e9]; exact hE.ix (by decide) _ _ _) ?_, fun c => absurd (nI_le (Nat.le_refl 8) (by decide)) c⟩
      have f : ∀ b, b ≠ 20 → σ9.1 b = σ'.1 b := fun b hb => by rw [e9, sI_k hb]
      have g : σ9.2.1 = σ'.2.1 := by rw [e9]; rfl
      refine ⟨by rw [e9]; simp [sI]; exact p1.1, ?_, ?_, ?_, ?_, ?_⟩
      · rw [f 21 (by decide), f 22 (by decide), f 23 (by decide), f 24 (by decide), f 27 (by decide)]
        exact p1.2
      · rw [g]; exact p2
      · rw [f 28 (by decide), f 33 (by decide), f 34 (by decide), f 35 (by decide), f 36 (by decide), g]
        exact p3
      · rw [f 41 (by decide)]; exact p4
      · rw [e9]; simp [sI]
    | succ m ih =>
      intro y σ' hy hE p1 p2 p3 p4
      rw [lp_X5_begin_181, nI_p1, i_n y (by omega)]
      refine ⟨fun c => absurd c (nI_ge (b := 8) (by omega) (by omega)), fun _ => ⟨vp_n (by omega) (by omega), fun σ3 e3 => ?_⟩⟩
      have f : ∀ b, b ≠ 41 → σ3.1 b = σ'.1 b := fun b hb => by rw [e3, sI_k hb]
      have g : σ3.2.1 = σ'.2.1 := by rw [e3]; rfl
      refine ih (y + 1) σ3 (by omega) (by rw [e3]; exact hE.ix (by decide) _ _ _) (p1.o (f _ (by decide)) (f _ (by decide)) (f _ (by decide)) (f _ (by decide)) (f _ (by decide)) (f _ (by decide))) (by unfold P2; rw [g]; exact p2) (by unfold P3; rw [f 28 (by decide), f 33 (by decide), f 34 (by decide), f 35 (by decide), f 36 (by decide), g]; exact p3) (fun c hc => ?_)
      rw [e3]
      by_cases d : c = y
      · subst d; simp [sI]
      · simp [sI, d]; exact p4 c (by omega)
  have L3 : ∀ (m y : Nat) (σ' : Sg), y + m = 6 → EqC false σ σ' → P1 N σ' 48 → P2 σ' 192 → P3 σ' y → lp_X5_begin_125 (nI N) Q (m + 1) σ' (nI y) := by
    intro m
    induction m with
    | zero =>
      intro y σ' hy hE p1 p2 p3
      have hy : y = 6 := by omega
      subst hy
      rw [lp_X5_begin_125]
      exact ⟨fun _ => ⟨9, L4 8 0 σ' (by decide) hE p1 p2 p3 (fun c hc => by omega)⟩, fun c => absurd (nI_le (Nat.le_refl 6) (by decide)) c⟩
    | succ m ih =>
      intro y σ' hy hE p1 p2 p3
      have hv : vp_in (nI y) 6 := vp_n (by omega) (by omega)
      rw [lp_X5_begin_125, nI_p1, i_n y (by omega)]
      refine ⟨fun c => absurd c (nI_ge (b := 6) (by omega) (by omega)), fun _ => ⟨hv, fun t1 e1 => ⟨hv, fun t2 e2 => ⟨hv, fun t3 e3 => ⟨hv, fun t4 e4 => ⟨hv, fun t5 e5 => ⟨hv, fun t6 e6 => ?_⟩⟩⟩⟩⟩⟩⟩
      rw [e5, e4, e3, e2, e1] at e6
      have f : ∀ b, b < 28 → t6.1 b = σ'.1 b := fun b hb => by
        rw [e6]
        show (sI (sI (sI (sI (sI σ' 28 0 y 0) 33 0 y 0) 34 0 y 0) 35 0 y 0) 36 0 y 0).1 b = _
        rw [sI_k (by omega), sI_k (by omega), sI_k (by omega), sI_k (by omega), sI_k (by omega)]
      refine ih (y + 1) t6 (by omega) ?_ (p1.o (f _ (by decide)) (f _ (by decide)) (f _ (by decide)) (f _ (by decide)) (f _ (by decide)) (f _ (by decide))) ?_ (by rw [e6]; exact p3.i)
      · rw [e6]
        exact (((((hE.ix (by decide) _ _ _).ix (by decide) _ _ _).ix (by decide) _ _ _).ix (by decide) _ _ _).ix (by decide) _ _ _).lx (by decide) _ _ _
      · intro j hj
        rw [e6]
        simp [sI, sL]
        exact p2 j hj
  have L2 : ∀ (m y : Nat) (σ' : Sg), y + m = 192 → EqC false σ σ' → P1 N σ' 48 → P2 σ' y → lp_X5_begin_103 (nI N) Q (m + 1) σ' (nI y) := by
    intro m
    induction m with
    | zero =>
      intro y σ' hy hE p1 p2
      have hy : y = 192 := by omega
      subst hy
      rw [lp_X5_begin_103]
      exact ⟨fun _ => ⟨7, L3 6 0 σ' (by decide) hE p1 p2 (fun c hc => by omega)⟩, fun c => absurd (nI_le (Nat.le_refl 192) (by decide)) c⟩
    | succ m ih =>
      intro y σ' hy hE p1 p2
      rw [lp_X5_begin_103, nI_p1, i_n y (by omega)]
      refine ⟨fun c => absurd c (nI_ge (b := 192) (by omega) (by omega)), fun _ => ⟨vp_n (by omega) (by omega), fun σ3 e3 => ?_⟩⟩
      refine ih (y + 1) σ3 (by omega) (by rw [e3]; exact hE.lx (by decide) _ _ _) (p1.o (by rw [e3]; rfl) (by rw [e3]; rfl) (by rw [e3]; rfl) (by rw [e3]; rfl) (by rw [e3]; rfl) (by rw [e3]; rfl)) (fun j hj => ?_)
      rw [e3]
      by_cases d : j = y
      · subst d; simp [sL]
      · simp [sL, d]; exact p2 j (by omega)
  have L1 : ∀ (m y : Nat) (σ' : Sg), y + m = 48 → EqC false σ σ' → P1 N σ' y → lp_X5_begin_20 (nI N) Q (m + 1) σ' (nI y) := by
    intro m
    induction m with
    | zero =>
      intro y σ' hy hE p1
      have hy : y = 48 := by omega
      subst hy
      rw [lp_X5_begin_20]
      exact ⟨fun _ => ⟨193, L2 192 0 σ' (by decide) hE p1 (fun c hc => by omega)⟩, fun c => absurd (nI_le (Nat.le_refl 48) (by decide)) c⟩
    | succ m ih =>
      intro y σ' hy hE p1
      have hv : vp_in (nI y) 48 := vp_n (by omega) (by omega)
      obtain ⟨g1, g2⟩ := f8 y (by omega)
      obtain ⟨m1, m2, m3, m4⟩ := fM (y % 8) (by omega) N (by omega) h2
      have hlt : y % 8 % N < N := Nat.mod_lt _ (by omega)
      rw [lp_X5_begin_20, nI_p1, g2, m4, g1, i_n y (by omega)]
      refine ⟨fun c => absurd c (nI_ge (b := 48) (by omega) (by omega)), fun _ => ⟨m1, ?_⟩⟩
      have step : ∀ (v1 v2 : Int32) (σ3 : Sg), v1 = (if y % 8 % N = y / 8 then 2 else 0) → v2 = (if y % 8 % N = y / 8 then 1 else 0) → σ3 = sI (sI (sI (sI (sI σ' 22 0 y v2) 21 0 y v1) 23 0 y (nI (y % 8 % N))) 24 0 y 0) 27 0 y 0 → lp_X5_begin_20 (nI N) Q (m + 1) σ3 (nI (y + 1)) := by
        intro v1 v2 σ3 e1 e2 e3
        refine ih (y + 1) σ3 (by omega) ?_ ⟨?_, fun j hj => ?_⟩
        · rw [e3]
          exact ((((hE.ix (by decide) _ _ _).ix (by decide) _ _ _).ix (by decide) _ _ _).ix (by decide) _ _ _).ix (by decide) _ _ _
        · rw [e3, mg5]
          by_cases c : 0 = 0 ∧ 0 = y
          · rw [if_pos c, if_neg (by decide), if_neg (by decide), if_neg (by decide), if_neg (by decide), if_neg (by decide)]
            exact p1.1
          · rw [if_neg c]; exact p1.1
        · rw [e3]
          simp only [mg5]
          by_cases c : j = y
          · subst c
            simp [pv, e1, e2]
          · simp only [c, and_false, if_false]
            exact p1.2 j (by omega)
      refine ⟨fun c => ⟨hv, fun t1 e1 => ⟨hv, fun d => ?_, fun d => ⟨hv, fun t2 e2 => ⟨m1, hv, fun t3 e3 => ⟨hv, fun t4 e4 => ⟨hv, fun t5 e5 => ?_⟩⟩⟩⟩⟩⟩, fun c => ⟨hv, fun t1 e1 => ⟨hv, fun d => ⟨hv, fun t2 e2 => ⟨m1, hv, fun t3 e3 => ⟨hv, fun t4 e4 => ⟨hv, fun t5 e5 => ?_⟩⟩⟩⟩, fun d => ?_⟩⟩⟩
      · exfalso
        rw [e1] at d
        simp [sI] at d
      · have hc : y % 8 % N = y / 8 := (nI_inj (by omega) (by omega) c).symm
        exact step 2 1 t5 (by rw [if_pos hc]) (by rw [if_pos hc]) (by rw [e5, e4, e3, e2, e1])
      · have hc : y % 8 % N ≠ y / 8 := fun z => c (by rw [z])
        exact step 0 0 t5 (by rw [if_neg hc]) (by rw [if_neg hc]) (by rw [e5, e4, e3, e2, e1])
      · exfalso
        refine d ?_
        rw [e1]
        simp [sI]
  unfold wp_X5_begin
  refine ⟨fun c => ?_, fun _ => ⟨fun _ σ3 e3 => ⟨49, L1 48 0 σ3 (by decide) (by rw [e3]; exact EqC.ix ⟨fun _ _ => ⟨rfl, rfl⟩, rfl⟩ (by decide) _ _ _) ⟨by rw [e3]; simp [sI], fun j hj => by omega⟩⟩, fun c => absurd (nI_le (b := 6) h6 (by decide)) c⟩⟩
  exfalso
  rw [Int32.lt_iff_toInt_lt, nI_toInt (by omega), show (2 : Int32).toInt = 2 from rfl] at c
  omega
/-- the count of nodes, and letters without words -/
def Sd (s : St) : Prop := s.1.1 2 0 0 = s.1.1 0 0 3 ∧ ∀ l, l ∈ s.2.1 → ¬ (lk l = 3 ∨ lk l = 4) → lw l = fun _ => 0
theorem Sd.of {s s1 : St} (h : Sd s) (e2 : s1.1.1 2 0 0 = s.1.1 2 0 0) (e0 : s1.1.1 0 0 3 = s.1.1 0 0 3) (hl : ∀ l, l ∈ s1.2.1 → l ∈ s.2.1 ∨ (¬ (lk l = 3 ∨ lk l = 4) → lw l = fun _ => 0)) : Sd s1 := by
  refine ⟨by rw [e2, e0]; exact h.1, fun l hm hn => ?_⟩
  rcases hl l hm with z | z
  · exact h.2 l z hn
  · exact z hn
theorem aCnt_2 {τ : Sg} {c : Nat} (h : c ≠ 0) : (aCnt τ c).1 2 0 0 = τ.1 2 0 0 := by simp [aCnt, sI, Ne.symm h]
theorem sI_2 {τ : Sg} {a k f : Nat} {v : Int32} (h : a ≠ 2) : (sI τ a k f v).1 2 0 0 = τ.1 2 0 0 := by rw [sI_k (Ne.symm h)]
theorem sI_0 {τ : Sg} {a k f : Nat} {v : Int32} (h : a ≠ 0) : (sI τ a k f v).1 0 0 3 = τ.1 0 0 3 := by rw [sI_k (Ne.symm h)]
theorem aFin_2 {τ : Sg} {k : Nat} : (aFin τ k).1 2 0 0 = τ.1 2 0 0 ∧ (aFin τ k).1 0 0 3 = τ.1 0 0 3 := by
  refine ⟨?_, aFin_i 0 0 3 (by decide) (by omega)⟩
  unfold aFin
  simp only
  rw [aCnt_2 (by decide), sI_2 (by decide), sI_2 (by decide)]
  show (if τ.1 6 k 4 = 0 then τ else _).1 2 0 0 = _
  split <;> rfl
theorem aTake_c {τ : Sg} {k : Nat} {x1 x2 x3 : Int32} {x4 : Int64} : (aTake τ k x1 x2 x3 x4).1 2 0 0 = τ.1 2 0 0 ∧ (aTake τ k x1 x2 x3 x4).1 0 0 3 = τ.1 0 0 3 := ⟨by rw [aTake_k (by decide)], by rw [aTake_k (by decide)]⟩
theorem Sd.send {s : St} (h : Sd s) {kd fr to p : Nat} {a b : Int32} : Sd (aSend s kd fr to p a b) := by
  refine h.of (aCnt_2 (by decide)) (by show (aCnt s.1 1).1 0 0 3 = _; rw [aCnt_k (by decide)]) (fun l hl => ?_)
  rcases List.mem_append.mp hl with z | z
  · exact Or.inl z
  · rw [List.mem_singleton] at z
    right
    intro hn
    rw [z] at hn ⊢
    exact lwd_n hn
theorem Sd.ask {s : St} (h : Sd s) {k kd p a : Nat} : Sd (aAsk s k kd p a) := by
  unfold aAsk
  split
  · exact h.of rfl rfl (fun l hl => Or.inl hl)
  · split
    · refine h.of ?_ ?_ (fun l hl => ?_)
      · simp only
        split
        · rw [sI_2 (by decide), aCnt_2 (by decide), aCnt_2 (by decide)]
        · rw [aCnt_2 (by decide), aCnt_2 (by decide)]
      · simp only
        split
        · rw [sI_0 (by decide), aCnt_k (by decide), aCnt_k (by decide)]
        · rw [aCnt_k (by decide), aCnt_k (by decide)]
      · rcases List.mem_append.mp hl with z | z
        · exact Or.inl z
        · rw [List.mem_singleton] at z
          right
          intro hn
          rw [z] at hn ⊢
          exact lwd_n hn
    · split
      · refine h.of ?_ ?_ (fun l hl => ?_)
        · simp only
          rw [aCnt_2 (by decide), aCnt_2 (by decide), sI_2 (by decide), sI_2 (by decide)]
        · simp only
          rw [aCnt_k (by decide), aCnt_k (by decide), sI_0 (by decide), sI_0 (by decide)]
        · rcases List.mem_append.mp hl with z | z
          · exact Or.inl z
          · rw [List.mem_singleton] at z
            right
            intro hn
            rw [z] at hn
            exact absurd (Or.inl rfl) hn
      · refine h.of ?_ ?_ (fun l hl => ?_)
        · simp only
          rw [sI_2 (by decide), sI_2 (by decide), sI_2 (by decide), sI_2 (by decide), aCnt_2 (by decide), aCnt_2 (by decide)]
        · simp only
          rw [sI_0 (by decide), sI_0 (by decide), sI_0 (by decide), sI_0 (by decide), aCnt_k (by decide), aCnt_k (by decide)]
        · rcases List.mem_append.mp hl with z | z
          · exact Or.inl z
          · rw [List.mem_singleton] at z
            right
            intro hn
            rw [z] at hn
            exact absurd (Or.inr rfl) hn
theorem Sd.goL {k p : Nat} : ∀ (es : List (Nat × Nat)) (s : St), Sd s → Sd (aGoL k p es s) := by
  intro es
  induction es with
  | nil => intro s h; exact h
  | cons e es ih => intro s h; exact ih _ h.ask
theorem Sd.go {s : St} (h : Sd s) {k p : Nat} : Sd (aGo s k p) := Sd.goL _ _ (h.of rfl rfl (fun l hl => Or.inl hl))
theorem Sd.cb {cp : Int32} {k p : Nat} : ∀ (n : Nat) (s : St), Sd s → Sd (aCb cp k p n s)
  | 0, s, h => h
  | n + 1, s, h => by
    have ih := Sd.cb (cp := cp) (k := k) (p := p) n s h
    show Sd (aCb1 cp k p n (aCb cp k p n s))
    generalize aCb cp k p n s = t at ih ⊢
    unfold aCb1
    split
    · have h2 : Sd (aSend t 5 k n p (-1) 0) := ih.send
      exact h2.of (by simp only; rw [sI_2 (by decide), aCnt_2 (by decide)]) (by simp only; rw [sI_0 (by decide), aCnt_k (by decide)]) (fun l hl => Or.inl hl)
    · exact ih
theorem Sd.call {s : St} (h : Sd s) {k p N : Nat} : Sd (aCall s k p N) := Sd.cb N _ (h.of (by simp only; rw [sI_2 (by decide), sI_2 (by decide)]) (by simp only; rw [sI_0 (by decide), sI_0 (by decide)]) (fun l hl => Or.inl hl))
theorem Sd.fin {τ : Sg} {ls : List Lt} {qs : Qu} (h : Sd (τ, ls, qs)) {k p : Nat} {v : Int32} : Sd (aFin (sI τ 7 k p v) k, ls, qs) := h.of (by simp only; rw [aFin_2.1, sI_2 (by decide)]) (by simp only; rw [aFin_2.2, sI_0 (by decide)]) (fun l hl => Or.inl hl)
theorem Sd.fia {s : St} (h : Sd s) {k p : Nat} : Sd (aFia s k p) := by
  unfold aFia
  split
  · exact Sd.go (Sd.fin h)
  · exact h
theorem Sd.del {N : Nat} {s : St} (h : Sd s) {l : Lt} : Sd (aDel N s l) := by
  unfold aDel
  split
  · exact h.ask
  · split
    · refine h.of ?_ ?_ (fun l hl => Or.inl hl)
      · show (aGr _ _ _ _ _).1 2 0 0 = _
        unfold aGr
        rw [aFin_2.1, sI_2 (by decide), sI_2 (by decide)]
        rfl
      · show (aGr _ _ _ _ _).1 0 0 3 = _
        unfold aGr
        rw [aFin_2.2, sI_0 (by decide), sI_0 (by decide)]
        rfl
    · split
      · refine Sd.fia (Sd.call (Sd.of (s1 := (aGw s.1 (lt l) (lp l) (lc l) (lw l), s.2.1, s.2.2)) h ?_ ?_ (fun l hl => Or.inl hl)))
        · show (aGw _ _ _ _ _).1 2 0 0 = _
          unfold aGw
          rw [sI_2 (by decide), sI_2 (by decide), sI_2 (by decide)]
          rfl
        · show (aGw _ _ _ _ _).1 0 0 3 = _
          rw [aGw_0]
      · split
        · refine Sd.send (Sd.of (s1 := (aCd s.1 (lt l) (lp l) (lf l), s.2.1, s.2.2)) h ?_ ?_ (fun l hl => Or.inl hl))
          · show (aCd _ _ _ _).1 2 0 0 = _
            unfold aCd
            simp only
            split
            · rw [sI_2 (by decide), sI_2 (by decide), sI_2 (by decide)]
            · rw [sI_2 (by decide), sI_2 (by decide)]
          · show (aCd _ _ _ _).1 0 0 3 = _
            unfold aCd
            simp only
            split
            · rw [sI_0 (by decide), sI_0 (by decide), sI_0 (by decide)]
            · rw [sI_0 (by decide), sI_0 (by decide)]
        · exact Sd.fia (Sd.of (s1 := (sI s.1 6 (lt l) 6 (s.1.1 6 (lt l) 6 - 1), s.2.1, s.2.2)) h (by simp only; rw [sI_2 (by decide)]) (by simp only; rw [sI_0 (by decide)]) (fun l hl => Or.inl hl))
