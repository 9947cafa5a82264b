/-! PURE: the abstract state (scalars τ in the class's kinds, letters, queues), and how the class's cells hold it -/
abbrev Lt : Type := Nat × Nat × Nat × Nat × Int32 × Int32 × (Nat → Int64)
abbrev Qu : Type := Nat → Nat → List (Nat × Nat)
abbrev lk (l : Lt) : Nat := l.1
abbrev lf (l : Lt) : Nat := l.2.1
abbrev lt (l : Lt) : Nat := l.2.2.1
abbrev lp (l : Lt) : Nat := l.2.2.2.1
abbrev ln (l : Lt) : Int32 := l.2.2.2.2.1
abbrev lc (l : Lt) : Int32 := l.2.2.2.2.2.1
abbrev lw (l : Lt) : Nat → Int64 := l.2.2.2.2.2.2
def sk (a : Nat) : Prop := a = 0 ∨ a = 2 ∨ (6 ≤ a ∧ a ≤ 11)
def AgS (σ τ : Sg) : Prop := ∀ a, sk a → σ.1 a = τ.1 a ∧ σ.2.1 a = τ.2.1 a
theorem AgS.i {σ τ : Sg} (h : AgS σ τ) (a k f : Nat) (v : Int32) : AgS (sI σ a k f v) (sI τ a k f v) := fun b hb => ⟨by funext k' f'; simp [sI, (h b hb).1], (h b hb).2⟩
theorem AgS.l {σ τ : Sg} (h : AgS σ τ) (a k f : Nat) (v : Int64) : AgS (sL σ a k f v) (sL τ a k f v) := fun b hb => ⟨(h b hb).1, by funext k' f'; simp [sL, (h b hb).2]⟩
theorem AgS.ix {σ τ : Sg} (h : AgS σ τ) {a : Nat} (ha : ¬ sk a) (k f : Nat) (v : Int32) : AgS (sI σ a k f v) τ := fun b hb => ⟨by
  have : b ≠ a := fun e => ha (e ▸ hb)
  funext k' f'; simp [sI, this, (h b hb).1], (h b hb).2⟩
theorem AgS.lx {σ τ : Sg} (h : AgS σ τ) {a : Nat} (ha : ¬ sk a) (k f : Nat) (v : Int64) : AgS (sL σ a k f v) τ := fun b hb => ⟨(h b hb).1, by
  have : b ≠ a := fun e => ha (e ▸ hb)
  funext k' f'; simp [sL, this, (h b hb).2]⟩
theorem AgS.r {σ τ : Sg} (h : AgS σ τ) (j x : Nat) : AgS (sR σ j x) τ := fun b hb => h b hb
theorem AgS.cx {σ τ : Sg} (h : AgS σ τ) (a k sp x dp n : Nat) : AgS (sC σ a k sp 16 x dp n) τ := fun b hb => ⟨(h b hb).1, by
  have : b ≠ 16 := by unfold sk at hb; omega
  funext k' f'; simp [sC, this, (h b hb).2]⟩
/-- four words from a letter into a node's page -/
def sW (τ : Sg) (k dp : Nat) (w : Nat → Int64) : Sg := (τ.1, fun a k' f => if a = 11 ∧ k' = k ∧ dp ≤ f ∧ f < dp + 4 then w (f - dp) else τ.2.1 a k' f, τ.2.2)
theorem AgS.w {σ τ : Sg} (h : AgS σ τ) {x k dp : Nat} {w : Nat → Int64} (hw : ∀ i, i < 4 → σ.2.1 16 x i = w i) : AgS (sC σ 16 x 0 11 k dp 4) (sW τ k dp w) := fun b hb => ⟨(h b hb).1, by
  funext k' f'
  have h2 := congrFun (congrFun (h b hb).2 k') f'
  by_cases e : b = 11 ∧ k' = k
  · obtain ⟨rfl, rfl⟩ := e
    by_cases d : dp ≤ f' ∧ f' < dp + 4
    · simp only [sC, sW, va_cpy, and_self, if_true, d, true_and]
      rw [Nat.zero_add]
      exact hw _ (by omega)
    · simp [sC, sW, va_cpy, d, h2]
  · have e2 : ¬ (b = 11 ∧ k' = k ∧ dp ≤ f' ∧ f' < dp + 4) := fun q => e ⟨q.1, q.2.1⟩
    simp [sC, sW, e, e2, h2]⟩
theorem AgS.trans {σ τ υ : Sg} (h : AgS σ τ) (h2 : AgS τ υ) : AgS σ υ := fun a ha => ⟨(h a ha).1.trans (h2 a ha).1, (h a ha).2.trans (h2 a ha).2⟩
theorem AgS.rfl' {σ : Sg} : AgS σ σ := fun _ _ => ⟨rfl, rfl⟩
theorem sk0 : sk 0 := Or.inl rfl
theorem sk2 : sk 2 := Or.inr (Or.inl rfl)
theorem skN {a : Nat} (h : 6 ≤ a ∧ a ≤ 11) : sk a := Or.inr (Or.inr h)
theorem AgS.a0 {σ τ : Sg} (h : AgS σ τ) : σ.1 0 = τ.1 0 := (h 0 sk0).1
theorem AgS.a2 {σ τ : Sg} (h : AgS σ τ) : σ.1 2 = τ.1 2 := (h 2 sk2).1
theorem AgS.a6 {σ τ : Sg} (h : AgS σ τ) : σ.1 6 = τ.1 6 := (h 6 (skN (by decide))).1
theorem AgS.a7 {σ τ : Sg} (h : AgS σ τ) : σ.1 7 = τ.1 7 := (h 7 (skN (by decide))).1
theorem AgS.a8 {σ τ : Sg} (h : AgS σ τ) : σ.1 8 = τ.1 8 := (h 8 (skN (by decide))).1
theorem AgS.a9 {σ τ : Sg} (h : AgS σ τ) : σ.1 9 = τ.1 9 := (h 9 (skN (by decide))).1
theorem AgS.a10 {σ τ : Sg} (h : AgS σ τ) : σ.1 10 = τ.1 10 := (h 10 (skN (by decide))).1
theorem AgS.l6 {σ τ : Sg} (h : AgS σ τ) : σ.2.1 6 = τ.2.1 6 := (h 6 (skN (by decide))).2
theorem AgS.l11 {σ τ : Sg} (h : AgS σ τ) : σ.2.1 11 = τ.2.1 11 := (h 11 (skN (by decide))).2
def VL (σ : Sg) (x : Nat) (l : Lt) : Prop := (σ.1 15 x 0 = nI (lk l) ∧ σ.1 15 x 1 = nI (lf l) ∧ σ.1 15 x 2 = nI (lt l) ∧ σ.1 15 x 3 = nI (lp l) ∧ σ.1 15 x 4 = ln l ∧ σ.1 15 x 5 = lc l) ∧ ((lk l = 3 ∨ lk l = 4) → ∀ w, w < 4 → σ.2.1 16 x w = lw l w)
/-- the row of letters: its order and the last letter's kind are as in μ -/
def VR (μ σ : Sg) : Prop := (σ.2.2 = μ.2.2 ∧ σ.1 15 (μ.2.2 31) 0 = μ.1 15 (μ.2.2 31) 0) ∧ (∀ j, j < 32 → σ.2.2 j < 32) ∧ ∀ i j, i < 32 → j < 32 → σ.2.2 i = σ.2.2 j → i = j
theorem VR.i {μ σ : Sg} (h : VR μ σ) {a : Nat} (ha : a ≠ 15) (k f : Nat) (v : Int32) : VR μ (sI σ a k f v) := by
  refine ⟨⟨h.1.1, ?_⟩, h.2⟩
  have : ¬ (15 = a ∧ μ.2.2 31 = k ∧ 0 = f) := fun e => ha e.1.symm
  show (if 15 = a ∧ μ.2.2 31 = k ∧ 0 = f then v else σ.1 15 (μ.2.2 31) 0) = _
  rw [if_neg this]
  exact h.1.2
theorem VR.x {μ σ : Sg} (h : VR μ σ) {n : Nat} (hn : n ≤ 30) (f : Nat) (v : Int32) : VR μ (sI σ 15 (σ.2.2 n) f v) := by
  refine ⟨⟨h.1.1, ?_⟩, h.2⟩
  have : ¬ (15 = 15 ∧ μ.2.2 31 = σ.2.2 n ∧ 0 = f) := fun e => by
    have h9 := e.2.1
    rw [← h.1.1] at h9
    have := h.2.2 31 n (by omega) (by omega) h9
    omega
  show (if 15 = 15 ∧ μ.2.2 31 = σ.2.2 n ∧ 0 = f then v else σ.1 15 (μ.2.2 31) 0) = _
  rw [if_neg this]
  exact h.1.2
def VM (σ : Sg) (ls : List Lt) : Prop := ls.length ≤ 32 ∧ σ.1 3 0 1 = nI ls.length ∧ ∀ j l, ls[j]? = some l → VL σ (σ.2.2 j) l
def VQ (σ : Sg) (qs : Qu) : Prop := ∀ k p, k < 6 → p < 8 → (qs k p).length ≤ 6 ∧ σ.1 12 k p = nI (qs k p).length ∧ ∀ i e, (qs k p)[i]? = some e → σ.1 13 k (6 * p + i) = nI e.1 ∧ σ.1 14 k (6 * p + i) = nI e.2
def VN (σ : Sg) : Prop := ∀ k, k < 6 → σ.1 5 k 0 = nI k
/-- the reference's kinds (and, where bq says so, the queues' rows) are as in μ -/
def EqM (bq : Bool) (μ σ : Sg) : Prop := ∀ a, (20 ≤ a ∨ (bq = true ∧ (a = 13 ∨ a = 14))) → σ.1 a = μ.1 a ∧ σ.2.1 a = μ.2.1 a
theorem EqM.weak {bq : Bool} {μ σ : Sg} (h : EqM bq μ σ) : EqM false μ σ := fun a ha => h a (ha.elim Or.inl (fun z => by cases z.1))
/-- the class's cells hold τ, ls, qs; the reference's are as in μ -/
def RC (bq : Bool) (μ τ : Sg) (ls : List Lt) (qs : Qu) (σ : Sg) : Prop := EqM bq μ σ ∧ AgS σ τ ∧ VN σ ∧ VR μ σ ∧ VM σ ls ∧ VQ σ qs
/-- what hangs together by the kinds of the cells: unchanged kinds -/
theorem EqM.i {bq : Bool} {μ σ : Sg} (h : EqM bq μ σ) {a : Nat} (ha : a < 13 ∨ (14 < a ∧ a < 20)) (k f : Nat) (v : Int32) : EqM bq μ (sI σ a k f v) := fun b hb => ⟨by
  have : b ≠ a := by omega
  funext k' f'; simp [sI, this, (h b hb).1], (h b hb).2⟩
theorem EqM.l {bq : Bool} {μ σ : Sg} (h : EqM bq μ σ) {a : Nat} (ha : a < 13 ∨ (14 < a ∧ a < 20)) (k f : Nat) (v : Int64) : EqM bq μ (sL σ a k f v) := fun b hb => ⟨(h b hb).1, by
  have : b ≠ a := by omega
  funext k' f'; simp [sL, this, (h b hb).2]⟩
theorem EqM.c {bq : Bool} {μ σ : Sg} (h : EqM bq μ σ) {b : Nat} (hb : b < 13 ∨ (14 < b ∧ b < 20)) (a k sp x dp n : Nat) : EqM bq μ (sC σ a k sp b x dp n) := fun c hc => ⟨(h c hc).1, by
  have : c ≠ b := by omega
  funext k' f'; simp [sC, this, (h c hc).2]⟩
theorem VN.i {σ : Sg} (h : VN σ) {a : Nat} (ha : a ≠ 5) (k f : Nat) (v : Int32) : VN (sI σ a k f v) := fun k' hk => by
  have : ¬ (5 = a ∧ k' = k ∧ 0 = f) := fun e => ha e.1.symm
  simp [sI, this, h k' hk]
theorem VM.i {σ : Sg} {ls : List Lt} (h : VM σ ls) {a : Nat} (ha : a ≠ 3) (hb : a ≠ 15) (k f : Nat) (v : Int32) : VM (sI σ a k f v) ls := by
  have e3 : (sI σ a k f v).1 3 = σ.1 3 := by funext k' f'; simp [sI, Ne.symm ha]
  have e15 : (sI σ a k f v).1 15 = σ.1 15 := by funext k' f'; simp [sI, Ne.symm hb]
  refine ⟨h.1, by rw [e3]; exact h.2.1, fun j l hj => ?_⟩
  have := h.2.2 j l hj
  unfold VL at this ⊢
  rw [e15]
  exact this
theorem VM.l {σ : Sg} {ls : List Lt} (h : VM σ ls) {a : Nat} (ha : a ≠ 16) (k f : Nat) (v : Int64) : VM (sL σ a k f v) ls := by
  have e16 : (sL σ a k f v).2.1 16 = σ.2.1 16 := by funext k' f'; simp [sL, Ne.symm ha]
  refine ⟨h.1, h.2.1, fun j l hj => ?_⟩
  have := h.2.2 j l hj
  unfold VL at this ⊢
  rw [e16]
  exact this
theorem VM.w {σ : Sg} {ls : List Lt} (h : VM σ ls) {b : Nat} (ha : b ≠ 16) (a k sp x dp n : Nat) : VM (sC σ a k sp b x dp n) ls := by
  have e16 : (sC σ a k sp b x dp n).2.1 16 = σ.2.1 16 := by funext k' f'; simp [sC, Ne.symm ha]
  refine ⟨h.1, h.2.1, fun j l hj => ?_⟩
  have := h.2.2 j l hj
  unfold VL at this ⊢
  rw [e16]
  exact this
theorem VQ.i {σ : Sg} {qs : Qu} (h : VQ σ qs) {a : Nat} (ha : a ≠ 12 ∧ a ≠ 13 ∧ a ≠ 14) (k f : Nat) (v : Int32) : VQ (sI σ a k f v) qs := by
  have e1 : (sI σ a k f v).1 12 = σ.1 12 := by funext k' f'; simp [sI, Ne.symm ha.1]
  have e2 : (sI σ a k f v).1 13 = σ.1 13 := by funext k' f'; simp [sI, Ne.symm ha.2.1]
  have e3 : (sI σ a k f v).1 14 = σ.1 14 := by funext k' f'; simp [sI, Ne.symm ha.2.2]
  intro k' p hk hp
  rw [e1, e2, e3]
  exact h k' p hk hp
/-- a scalar of the class is written: both sides -/
theorem RC.i {bq : Bool} {μ τ σ : Sg} {ls : List Lt} {qs : Qu} (h : RC bq μ τ ls qs σ) {a : Nat} (ha : sk a) (k f : Nat) (v : Int32) : RC bq μ (sI τ a k f v) ls qs (sI σ a k f v) := by
  have h' := ha
  unfold sk at h'
  exact ⟨h.1.i (by omega) k f v, h.2.1.i a k f v, h.2.2.1.i (by omega) k f v, h.2.2.2.1.i (by omega) k f v, h.2.2.2.2.1.i (by omega) (by omega) k f v, h.2.2.2.2.2.i (by omega) k f v⟩
theorem RC.l {bq : Bool} {μ τ σ : Sg} {ls : List Lt} {qs : Qu} (h : RC bq μ τ ls qs σ) {a : Nat} (ha : sk a) (k f : Nat) (v : Int64) : RC bq μ (sL τ a k f v) ls qs (sL σ a k f v) := by
  have h' := ha
  unfold sk at h'
  exact ⟨h.1.l (by omega) k f v, h.2.1.l a k f v, h.2.2.1, h.2.2.2.1, h.2.2.2.2.1.l (by omega) k f v, h.2.2.2.2.2⟩
theorem RC.w {bq : Bool} {μ τ σ : Sg} {ls : List Lt} {qs : Qu} (h : RC bq μ τ ls qs σ) {x k dp : Nat} {w : Nat → Int64} (hw : ∀ i, i < 4 → σ.2.1 16 x i = w i) : RC bq μ (sW τ k dp w) ls qs (sC σ 16 x 0 11 k dp 4) :=
  ⟨h.1.c (by decide) _ _ _ _ _ _, h.2.1.w hw, h.2.2.1, h.2.2.2.1, h.2.2.2.2.1.w (by decide) _ _ _ _ _ _, h.2.2.2.2.2⟩
-- numbers
theorem i_n (n : Nat) (h : n < 2147483648) : ix (nI n) = n := nI_clamp h
theorem vp_n {n N : Nat} (h : n < N) (hN : N < 2147483648) : vp_in (nI n) N := vp_in_nI h hN
theorem ixl0 : ix 0 = 0 := by decide
theorem ixl1 : ix 1 = 1 := by decide
theorem ixl2 : ix 2 = 2 := by decide
theorem ixl3 : ix 3 = 3 := by decide
theorem ixl4 : ix 4 = 4 := by decide
theorem ixl5 : ix 5 = 5 := by decide
theorem ixl6 : ix 6 = 6 := by decide
theorem ixl7 : ix 7 = 7 := by decide
theorem ixl31 : ix 31 = 31 := by decide
theorem nI_lit4 (p : Nat) : nI p * 4 = nI (p * 4) := pk_mul p 4
theorem nI_lit6 (p : Nat) : nI p * 6 = nI (p * 6) := pk_mul p 6
theorem nI_lit7 (p : Nat) : 7 * nI p = nI (7 * p) := pk_mul 7 p
theorem nI_lit8 (p : Nat) : 8 * nI p = nI (8 * p) := pk_mul 8 p
theorem nI_4lit (p : Nat) : 4 * nI p = nI (4 * p) := pk_mul 4 p
theorem nI_2lit (p : Nat) : 2 * nI p = nI (2 * p) := pk_mul 2 p
theorem nI_20lit (p : Nat) : 20 * nI p = nI (20 * p) := pk_mul 20 p
theorem nI_p1 (p : Nat) : nI p + 1 = nI (p + 1) := nI_1 p
theorem nI_p2 (p : Nat) : nI p + 2 = nI (p + 2) := nI_add p 2
theorem nI_p3 (p : Nat) : nI p + 3 = nI (p + 3) := nI_add p 3
theorem nI_p4 (p : Nat) : nI p + 4 = nI (p + 4) := nI_add p 4
theorem nI_p5 (p : Nat) : nI p + 5 = nI (p + 5) := nI_add p 5
theorem nI_p7 (p : Nat) : nI p + 7 = nI (p + 7) := nI_add p 7
theorem nI_inj {a b : Nat} (ha : a < 2147483648) (hb : b < 2147483648) (h : nI a = nI b) : a = b := (nI_eq ha hb).mp h
/-- a letter half sent: all but its words -/
def HS (bq : Bool) (μ τ : Sg) (ls : List Lt) (qs : Qu) (σ : Sg) (x : Nat) (l : Lt) : Prop := (ls.length ≤ 30 ∧ x < 32 ∧ x = σ.2.2 ls.length) ∧ EqM bq μ σ ∧ AgS σ τ ∧ VN σ ∧ VR μ σ ∧ σ.1 3 0 1 = nI (ls.length + 1) ∧ (∀ j l', ls[j]? = some l' → VL σ (σ.2.2 j) l') ∧ VQ σ qs ∧ (σ.1 15 x 0 = nI (lk l) ∧ σ.1 15 x 1 = nI (lf l) ∧ σ.1 15 x 2 = nI (lt l) ∧ σ.1 15 x 3 = nI (lp l) ∧ σ.1 15 x 4 = ln l ∧ σ.1 15 x 5 = lc l)
theorem HS.done {bq : Bool} {μ τ σ : Sg} {ls : List Lt} {qs : Qu} {x : Nat} {l : Lt} (h : HS bq μ τ ls qs σ x l) (hw : (lk l = 3 ∨ lk l = 4) → ∀ w, w < 4 → σ.2.1 16 x w = lw l w) : RC bq μ τ (ls ++ [l]) qs σ := by
  obtain ⟨⟨h30, hx, hxe⟩, h1, h2, h3, h4, h5, h6, h7, h8⟩ := h
  refine ⟨h1, h2, h3, h4, ⟨by simp; omega, by rw [h5]; simp, fun j l' hj => ?_⟩, h7⟩
  by_cases hjl : j < ls.length
  · rw [List.getElem?_append_left hjl] at hj
    exact h6 j l' hj
  · have hlt := (List.getElem?_eq_some_iff.mp hj).1
    have hje : j = ls.length := by simp at hlt; omega
    subst hje
    simp at hj
    subst hj
    rw [← hxe]
    exact ⟨h8, hw⟩
theorem HS.i {bq : Bool} {μ τ σ : Sg} {ls : List Lt} {qs : Qu} {x : Nat} {l : Lt} (h : HS bq μ τ ls qs σ x l) {a : Nat} (ha : sk a) (k f : Nat) (v : Int32) : HS bq μ (sI τ a k f v) ls qs (sI σ a k f v) x l := by
  obtain ⟨h0, h1, h2, h3, h4, h5, h6, h7, h8⟩ := h
  have h' := ha
  unfold sk at h'
  have e3 : (sI σ a k f v).1 3 = σ.1 3 := by funext k' f'; simp [sI, show 3 ≠ a by omega]
  have e15 : (sI σ a k f v).1 15 = σ.1 15 := by funext k' f'; simp [sI, show 15 ≠ a by omega]
  refine ⟨h0, h1.i (by omega) k f v, h2.i a k f v, h3.i (by omega) k f v, h4.i (by omega) k f v, by rw [e3]; exact h5, fun j l' hj => ?_, h7.i (by omega) k f v, by rw [e15]; exact h8⟩
  have := h6 j l' hj
  unfold VL at this ⊢
  rw [e15]
  exact this
theorem VR.ne {μ σ : Sg} (h : VR μ σ) {ls : List Lt} (hn : ls.length ≤ 30) {j : Nat} {l : Lt} (hj : ls[j]? = some l) : σ.2.2 j ≠ σ.2.2 ls.length := fun e => by
  have hlt := (List.getElem?_eq_some_iff.mp hj).1
  have := h.2.2 j ls.length (by omega) (by omega) e
  omega
/-- the sixth or fifth number of a letter half sent -/
theorem HS.node {bq : Bool} {μ τ σ : Sg} {ls : List Lt} {qs : Qu} {x : Nat} {l : Lt} (h : HS bq μ τ ls qs σ x l) (v : Int32) : HS bq μ τ ls qs (sI σ 15 x 4 v) x (lk l, lf l, lt l, lp l, v, lc l, lw l) := by
  obtain ⟨h0, h1, h2, h3, h4, h5, h6, h7, h8⟩ := h
  refine ⟨h0, h1.i (by decide) _ _ _, h2.ix (by unfold sk; decide) _ _ _, h3.i (by decide) _ _ _, by rw [h0.2.2]; exact h4.x h0.1 _ _, by simp [sI]; exact h5, fun j l' hj => ?_, h7.i (by decide) _ _ _, ?_⟩
  · have := h6 j l' hj
    have hne : σ.2.2 j ≠ x := by rw [h0.2.2]; exact h4.ne h0.1 hj
    unfold VL at this ⊢
    simp only [sI, hne, false_and, and_false, if_false]
    exact this
  · simp [sI, h8]
theorem HS.cop {bq : Bool} {μ τ σ : Sg} {ls : List Lt} {qs : Qu} {x : Nat} {l : Lt} (h : HS bq μ τ ls qs σ x l) (v : Int32) : HS bq μ τ ls qs (sI σ 15 x 5 v) x (lk l, lf l, lt l, lp l, ln l, v, lw l) := by
  obtain ⟨h0, h1, h2, h3, h4, h5, h6, h7, h8⟩ := h
  refine ⟨h0, h1.i (by decide) _ _ _, h2.ix (by unfold sk; decide) _ _ _, h3.i (by decide) _ _ _, by rw [h0.2.2]; exact h4.x h0.1 _ _, by simp [sI]; exact h5, fun j l' hj => ?_, h7.i (by decide) _ _ _, ?_⟩
  · have := h6 j l' hj
    have hne : σ.2.2 j ≠ x := by rw [h0.2.2]; exact h4.ne h0.1 hj
    unfold VL at this ⊢
    simp only [sI, hne, false_and, and_false, if_false]
    exact this
  · simp [sI, h8]
theorem HS.words {bq : Bool} {μ τ σ : Sg} {ls : List Lt} {qs : Qu} {x : Nat} {l : Lt} (h : HS bq μ τ ls qs σ x l) (k sp : Nat) : HS bq μ τ ls qs (sC σ 11 k sp 16 x 0 4) x l := by
  obtain ⟨h0, h1, h2, h3, h4, h5, h6, h7, h8⟩ := h
  refine ⟨h0, h1.c (by decide) _ _ _ _ _ _, h2.cx _ _ _ _ _ _, h3, h4, h5, fun j l' hj => ?_, h7, h8⟩
  have := h6 j l' hj
  have hne : σ.2.2 j ≠ x := by rw [h0.2.2]; exact h4.ne h0.1 hj
  unfold VL at this ⊢
  refine ⟨this.1, fun hg w hw => ?_⟩
  have h9 := this.2 hg w hw
  simp only [sC, hne, and_false, if_false]
  exact h9
theorem sC_words {σ : Sg} (k sp x w : Nat) (hw : w < 4) : (sC σ 11 k sp 16 x 0 4).2.1 16 x w = σ.2.1 11 k (sp + w) := by
  simp [sC, va_cpy, hw]
def aCnt (τ : Sg) (c : Nat) : Sg := sI τ 2 0 c (τ.1 2 0 c + 1)
theorem C_send {bq : Bool} {μ τ σ : Sg} {ls : List Lt} {qs : Qu} (h : RC bq μ τ ls qs σ) (hn : ls.length ≤ 30) (kd fr to pg : Nat) (Q : Sg → Nat → Prop) (hQ : ∀ σ1 x, HS bq μ (aCnt τ 1) ls qs σ1 x (kd, fr, to, pg, -1, 0, fun _ => 0) → Q σ1 x) : wp_X4_send σ (nI kd) (nI fr) (nI to) (nI pg) Q := by
  obtain ⟨h1, h2, h3, h4, h5, h6⟩ := h
  unfold wp_X4_send wp_X2_putIn
  intro σ1 e1 σ2 e2
  have hfl : σ1.1 3 0 1 = nI ls.length := by rw [e1]; simp [sI]; exact h5.2.1
  have hif : (if 31 < σ1.1 3 0 1 then (31 : Int32) else σ1.1 3 0 1) = nI ls.length := by
    rw [hfl, if_neg]
    exact nI_nlt (a := 31) (b := ls.length) (by omega) (by omega)
  rw [hif]
  have hix : ix (nI ls.length) = ls.length := i_n _ (by omega)
  rw [hix]
  have er : σ2.2.2 = σ.2.2 := by rw [e2, e1]; rfl
  refine ⟨vp_n (by omega) (by omega), by rw [er]; exact h4.2.1 _ (by omega), ?_⟩
  intro σ3 e3 σ4 e4 σ5 e5 σ6 e6 σ7 e7 σ8 e8
  have hx : σ.2.2 ls.length < 32 := h4.2.1 _ (by omega)
  rw [er] at e3 e4 e5 e6 e7 e8 ⊢
  generalize hxe : σ.2.2 ls.length = x at *
  have er8 : σ8.2.2 = σ.2.2 := by rw [e8, e7, e6, e5, e4, e3, e2, e1]; rfl
  refine hQ σ8 x ⟨⟨hn, hx, by rw [er8, hxe]⟩, ?_, ?_, ?_, ?_, ?_, ?_, ?_, ?_⟩
  · rw [e8, e7, e6, e5, e4, e3, e2, e1]
    exact (((((((h1.i (by decide) _ _ _).i (by decide) _ _ _).i (by decide) _ _ _).i (by decide) _ _ _).i (by decide) _ _ _).i (by decide) _ _ _).i (by decide) _ _ _).i (by decide) _ _ _
  · rw [e8, e7, e6, e5, e4, e3, e2, e1]
    have hc : AgS (sI σ 2 0 (ix 1) (σ.1 2 0 (ix 1) + 1)) (aCnt τ 1) := by
      unfold aCnt
      rw [ixl1, ← h2.a2]
      exact h2.i 2 0 1 _
    exact (((((((hc.ix (by unfold sk; decide) _ _ _).ix (by unfold sk; decide) _ _ _).ix (by unfold sk; decide) _ _ _).ix (by unfold sk; decide) _ _ _).ix (by unfold sk; decide) _ _ _).ix (by unfold sk; decide) _ _ _).ix (by unfold sk; decide) _ _ _)
  · rw [e8, e7, e6, e5, e4, e3, e2, e1]
    exact (((((((h3.i (by decide) _ _ _).i (by decide) _ _ _).i (by decide) _ _ _).i (by decide) _ _ _).i (by decide) _ _ _).i (by decide) _ _ _).i (by decide) _ _ _).i (by decide) _ _ _
  · rw [e8, e7, e6, e5, e4, e3, e2, e1]
    have v2 := (h4.i (a := 2) (by decide) 0 (ix 1) (σ.1 2 0 (ix 1) + 1)).i (a := 3) (by decide) 0 1 ((if 31 < (sI σ 2 0 (ix 1) (σ.1 2 0 (ix 1) + 1)).1 3 0 1 then 31 else (sI σ 2 0 (ix 1) (σ.1 2 0 (ix 1) + 1)).1 3 0 1) + 1)
    rw [← hxe]
    exact (((((v2.x hn 0 (nI kd)).x hn 1 (nI fr)).x hn 2 (nI to)).x hn 3 (nI pg)).x hn 4 (-1)).x hn 5 0
  · rw [e8, e7, e6, e5, e4, e3, e2]
    simp only [sI]
    simp only [hif]
    simp [nI_p1]
  · intro j l' hj
    have := h5.2.2 j l' hj
    have hne : σ.2.2 j ≠ x := by rw [← hxe]; exact h4.ne hn hj
    rw [er8]
    unfold VL at this ⊢
    rw [e8, e7, e6, e5, e4, e3, e2, e1]
    simp only [sI, hne, false_and, and_false, if_false]
    exact this
  · rw [e8, e7, e6, e5, e4, e3, e2, e1]
    exact (((((((h6.i (by decide) _ _ _).i (by decide) _ _ _).i (by decide) _ _ _).i (by decide) _ _ _).i (by decide) _ _ _).i (by decide) _ _ _).i (by decide) _ _ _).i (by decide) _ _ _
  · rw [e8, e7, e6, e5, e4, e3]
    simp [sI]
