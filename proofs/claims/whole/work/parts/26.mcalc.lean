/-! PURE: how the reference's cells hold the abstract state -/
/-- the class's kinds (and, where bm says so, the reference's rows for the letter at hand) are as in κ -/
def EqC (bm : Bool) (κ σ : Sg) : Prop := (∀ a, (a < 20 ∨ (bm = true ∧ (a = 42 ∨ a = 43 ∨ a = 44))) → σ.1 a = κ.1 a ∧ σ.2.1 a = κ.2.1 a) ∧ σ.2.2 = κ.2.2
theorem EqC.i {bm : Bool} {κ σ : Sg} (h : EqC bm κ σ) {a : Nat} (ha : 20 ≤ a ∧ a < 42) (k f : Nat) (v : Int32) : EqC bm κ (sI σ a k f v) := ⟨fun b hb => ⟨by
  have : b ≠ a := by omega
  funext k' f'; simp [sI, this, (h.1 b hb).1], (h.1 b hb).2⟩, h.2⟩
theorem EqC.l {bm : Bool} {κ σ : Sg} (h : EqC bm κ σ) {a : Nat} (ha : 20 ≤ a ∧ a < 42) (k f : Nat) (v : Int64) : EqC bm κ (sL σ a k f v) := ⟨fun b hb => ⟨(h.1 b hb).1, by
  have : b ≠ a := by omega
  funext k' f'; simp [sL, this, (h.1 b hb).2]⟩, h.2⟩
theorem EqC.ix {κ σ : Sg} (h : EqC false κ σ) {a : Nat} (ha : 20 ≤ a) (k f : Nat) (v : Int32) : EqC false κ (sI σ a k f v) := ⟨fun b hb => by
  have hb2 : b < 20 := hb.elim id (fun z => by cases z.1)
  have : b ≠ a := by omega
  exact ⟨by funext k' f'; simp [sI, this, (h.1 b hb).1], (h.1 b hb).2⟩, h.2⟩
theorem EqC.lx {κ σ : Sg} (h : EqC false κ σ) {a : Nat} (ha : 20 ≤ a) (k f : Nat) (v : Int64) : EqC false κ (sL σ a k f v) := ⟨fun b hb => by
  have hb2 : b < 20 := hb.elim id (fun z => by cases z.1)
  have : b ≠ a := by omega
  exact ⟨(h.1 b hb).1, by funext k' f'; simp [sL, this, (h.1 b hb).2]⟩, h.2⟩
theorem EqC.weak {bm : Bool} {κ σ : Sg} (h : EqC bm κ σ) : EqC false κ σ := ⟨fun a ha => h.1 a (ha.elim Or.inl (fun z => by cases z.1)), h.2⟩
theorem EqC.trans {b : Bool} {κ ν σ : Sg} (h1 : EqC b κ ν) (h2 : EqC b ν σ) : EqC b κ σ := ⟨fun a ha => ⟨(h2.1 a ha).1.trans (h1.1 a ha).1, (h2.1 a ha).2.trans (h1.1 a ha).2⟩, h2.2.trans h1.2⟩
def MP (τ σ : Sg) : Prop := ∀ k p, k < 6 → p < 8 → σ.1 21 0 (8 * k + p) = τ.1 7 k p ∧ σ.1 22 0 (8 * k + p) = τ.1 8 k p ∧ σ.1 23 0 (8 * k + p) = τ.1 9 k p ∧ σ.1 24 0 (8 * k + p) = τ.1 10 k p
def MW (τ σ : Sg) : Prop := ∀ k i, k < 6 → i < 32 → σ.2.1 25 0 (32 * k + i) = τ.2.1 11 k i
def MH (τ σ : Sg) : Prop := ∀ k, k < 6 → (σ.1 28 0 k = τ.1 6 k 1 ∧ σ.1 33 0 k = τ.1 6 k 6 ∧ σ.1 34 0 k = τ.1 6 k 7 ∧ σ.1 35 0 k = τ.1 6 k 0 ∧ σ.1 36 0 k = τ.1 6 k 8 ∧ σ.2.1 37 0 k = τ.2.1 6 k 9) ∧ (τ.1 6 k 0 = 1 → σ.1 29 0 k = τ.1 6 k 2 ∧ σ.1 30 0 k = τ.1 6 k 3 ∧ σ.1 31 0 k = τ.1 6 k 4 ∧ σ.2.1 32 0 k = τ.2.1 6 k 5)
def MC (τ σ : Sg) : Prop := σ.1 20 0 0 = τ.1 0 0 3 ∧ ∀ f, 1 ≤ f → f < 8 → σ.1 41 0 f = τ.1 2 0 f
def ML (ls : List Lt) (σ : Sg) : Prop := σ.1 20 0 20 = nI ls.length ∧ ls.length ≤ 190 ∧ ∀ j l, ls[j]? = some l → (σ.1 38 0 (7 * j) = nI (lk l) ∧ σ.1 38 0 (7 * j + 1) = nI (lf l) ∧ σ.1 38 0 (7 * j + 2) = nI (lt l) ∧ σ.1 38 0 (7 * j + 3) = nI (lp l) ∧ σ.1 38 0 (7 * j + 4) = ln l ∧ σ.1 38 0 (7 * j + 5) = lc l) ∧ ∀ w, w < 4 → σ.2.1 39 0 (4 * j + w) = lw l w
def MU (qs : Qu) (σ : Sg) : Prop := ∀ k p, k < 6 → p < 8 → (qs k p).length ≤ 9 ∧ σ.1 27 0 (8 * k + p) = nI (qs k p).length ∧ ∀ i e, (qs k p)[i]? = some e → σ.1 26 0 (20 * (8 * k + p) + 2 * i) = nI e.1 ∧ σ.1 26 0 (20 * (8 * k + p) + 2 * i + 1) = nI e.2
/-- the reference's cells hold τ, ls, qs; the class's are as in κ -/
def RM (bm : Bool) (κ τ : Sg) (ls : List Lt) (qs : Qu) (σ : Sg) : Prop := EqC bm κ σ ∧ MP τ σ ∧ MW τ σ ∧ MH τ σ ∧ MC τ σ ∧ ML ls σ ∧ MU qs σ
abbrev RMs (bm : Bool) (κ : Sg) (s : St) (σ : Sg) : Prop := RM bm κ s.1 s.2.1 s.2.2 σ
theorem sI_k {σ : Sg} {a k f b : Nat} {v : Int32} (h : b ≠ a) : (sI σ a k f v).1 b = σ.1 b := by funext x y; simp [sI, h]
theorem sL_k {σ : Sg} {a k f b : Nat} {v : Int64} (h : b ≠ a) : (sL σ a k f v).2.1 b = σ.2.1 b := by funext x y; simp [sL, h]
-- kinds that a predicate does not look at
theorem MP.o {τ σ σ1 τ1 : Sg} (h : MP τ σ) (e1 : σ1.1 21 = σ.1 21) (e2 : σ1.1 22 = σ.1 22) (e3 : σ1.1 23 = σ.1 23) (e4 : σ1.1 24 = σ.1 24) (t1 : τ1.1 7 = τ.1 7) (t2 : τ1.1 8 = τ.1 8) (t3 : τ1.1 9 = τ.1 9) (t4 : τ1.1 10 = τ.1 10) : MP τ1 σ1 := by
  intro k p hk hp
  rw [e1, e2, e3, e4, t1, t2, t3, t4]
  exact h k p hk hp
theorem MW.o {τ σ σ1 τ1 : Sg} (h : MW τ σ) (e1 : σ1.2.1 25 = σ.2.1 25) (t1 : τ1.2.1 11 = τ.2.1 11) : MW τ1 σ1 := by
  intro k p hk hp
  rw [e1, t1]
  exact h k p hk hp
theorem MH.o {τ σ σ1 τ1 : Sg} (h : MH τ σ) (e28 : σ1.1 28 = σ.1 28) (e29 : σ1.1 29 = σ.1 29) (e30 : σ1.1 30 = σ.1 30) (e31 : σ1.1 31 = σ.1 31) (e33 : σ1.1 33 = σ.1 33) (e34 : σ1.1 34 = σ.1 34) (e35 : σ1.1 35 = σ.1 35) (e36 : σ1.1 36 = σ.1 36) (e32 : σ1.2.1 32 = σ.2.1 32) (e37 : σ1.2.1 37 = σ.2.1 37) (t1 : τ1.1 6 = τ.1 6) (t2 : τ1.2.1 6 = τ.2.1 6) : MH τ1 σ1 := by
  intro k hk
  rw [e28, e29, e30, e31, e33, e34, e35, e36, e32, e37, t1, t2]
  exact h k hk
theorem MC.o {τ σ σ1 τ1 : Sg} (h : MC τ σ) (e20 : σ1.1 20 0 0 = σ.1 20 0 0) (e41 : σ1.1 41 = σ.1 41) (t0 : τ1.1 0 = τ.1 0) (t2 : τ1.1 2 = τ.1 2) : MC τ1 σ1 := by
  unfold MC
  rw [e20, e41, t0, t2]
  exact h
theorem ML.o {ls : List Lt} {σ σ1 : Sg} (h : ML ls σ) (e20 : σ1.1 20 0 20 = σ.1 20 0 20) (e38 : σ1.1 38 = σ.1 38) (e39 : σ1.2.1 39 = σ.2.1 39) : ML ls σ1 := by
  unfold ML
  rw [e20, e38, e39]
  exact h
theorem MU.o {qs : Qu} {σ σ1 : Sg} (h : MU qs σ) (e26 : σ1.1 26 = σ.1 26) (e27 : σ1.1 27 = σ.1 27) : MU qs σ1 := by
  intro k p hk hp
  rw [e26, e27]
  exact h k p hk hp
/-- a number that no predicate looks at -/
theorem RM.x {κ τ σ : Sg} {ls : List Lt} {qs : Qu} (h : RM false κ τ ls qs σ) {a : Nat} (ha : a = 42 ∨ a = 44) (k f : Nat) (v : Int32) : RM false κ τ ls qs (sI σ a k f v) := by
  have hk : ∀ b, b ≠ 42 → b ≠ 44 → (sI σ a k f v).1 b = σ.1 b := fun b h1 h2 => sI_k (by omega)
  refine ⟨h.1.ix (by omega) _ _ _, h.2.1.o ?_ ?_ ?_ ?_ rfl rfl rfl rfl, h.2.2.1, h.2.2.2.1.o ?_ ?_ ?_ ?_ ?_ ?_ ?_ ?_ rfl rfl rfl rfl, h.2.2.2.2.1.o ?_ ?_ rfl rfl, h.2.2.2.2.2.1.o ?_ ?_ rfl, h.2.2.2.2.2.2.o ?_ ?_⟩ <;> (try rw [hk _ (by decide) (by decide)]) <;> exact hk _ (by decide) (by decide)
theorem RM.lx {κ τ σ : Sg} {ls : List Lt} {qs : Qu} (h : RM false κ τ ls qs σ) (k f : Nat) (v : Int64) : RM false κ τ ls qs (sL σ 43 k f v) :=
  ⟨h.1.lx (by decide) _ _ _, h.2.1, h.2.2.1.o (sL_k (by decide)) rfl, h.2.2.2.1.o rfl rfl rfl rfl rfl rfl rfl rfl (sL_k (by decide)) (sL_k (by decide)) rfl rfl, h.2.2.2.2.1, h.2.2.2.2.2.1.o rfl rfl (sL_k (by decide)), h.2.2.2.2.2.2⟩
/-- the arrays of the pages -/
theorem RM.pg {bm : Bool} {κ τ σ : Sg} {ls : List Lt} {qs : Qu} (h : RM bm κ τ ls qs σ) {a b : Nat} (hab : (a = 21 ∧ b = 7) ∨ (a = 22 ∧ b = 8) ∨ (a = 23 ∧ b = 9) ∨ (a = 24 ∧ b = 10)) {k p : Nat} (hp : p < 8) (v : Int32) : RM bm κ (sI τ b k p v) ls qs (sI σ a 0 (8 * k + p) v) := by
  have hk : ∀ c, ¬ (21 ≤ c ∧ c ≤ 24) → (sI σ a 0 (8 * k + p) v).1 c = σ.1 c := fun c h1 => sI_k (by omega)
  have ht : ∀ c, ¬ (7 ≤ c ∧ c ≤ 10) → (sI τ b k p v).1 c = τ.1 c := fun c h1 => sI_k (by omega)
  refine ⟨h.1.i (by omega) _ _ _, ?_, h.2.2.1.o rfl rfl, h.2.2.2.1.o (hk _ (by decide)) (hk _ (by decide)) (hk _ (by decide)) (hk _ (by decide)) (hk _ (by decide)) (hk _ (by decide)) (hk _ (by decide)) (hk _ (by decide)) rfl rfl (ht _ (by decide)) rfl, h.2.2.2.2.1.o (by rw [hk _ (by decide)]) (hk _ (by decide)) (ht _ (by decide)) (ht _ (by decide)), h.2.2.2.2.2.1.o (by rw [hk _ (by decide)]) (hk _ (by decide)) rfl, h.2.2.2.2.2.2.o (hk _ (by decide)) (hk _ (by decide))⟩
  intro k' p' hk' hp'
  have h1 := h.2.1 k' p' hk' hp'
  have hi : (8 * k' + p' = 8 * k + p) ↔ (k' = k ∧ p' = p) := by omega
  rcases hab with ⟨rfl, rfl⟩ | ⟨rfl, rfl⟩ | ⟨rfl, rfl⟩ | ⟨rfl, rfl⟩ <;> simp [sI, hi, h1]
theorem RM.wd {bm : Bool} {κ τ σ : Sg} {ls : List Lt} {qs : Qu} (h : RM bm κ τ ls qs σ) {k i : Nat} (hi : i < 32) (v : Int64) : RM bm κ (sL τ 11 k i v) ls qs (sL σ 25 0 (32 * k + i) v) := by
  refine ⟨h.1.l (by decide) _ _ _, h.2.1.o rfl rfl rfl rfl rfl rfl rfl rfl, ?_, h.2.2.2.1.o rfl rfl rfl rfl rfl rfl rfl rfl (sL_k (by decide)) (sL_k (by decide)) rfl (sL_k (by decide)), h.2.2.2.2.1.o rfl rfl rfl rfl, h.2.2.2.2.2.1.o rfl rfl (sL_k (by decide)), h.2.2.2.2.2.2.o rfl rfl⟩
  intro k' i' hk' hi'
  have h1 := h.2.2.1 k' i' hk' hi'
  have e : (32 * k' + i' = 32 * k + i) ↔ (k' = k ∧ i' = i) := by omega
  simp [sL, e, h1]
/-- the numbers of what is at hand (not: whether there was one, page, word, kind) -/
theorem RM.hd {bm : Bool} {κ τ σ : Sg} {ls : List Lt} {qs : Qu} (h : RM bm κ τ ls qs σ) {a f : Nat} (haf : (a = 28 ∧ f = 1) ∨ (a = 33 ∧ f = 6) ∨ (a = 34 ∧ f = 7) ∨ (a = 36 ∧ f = 8)) (k : Nat) (v : Int32) : RM bm κ (sI τ 6 k f v) ls qs (sI σ a 0 k v) := by
  have hk : ∀ c, c < 28 ∨ c = 29 ∨ c = 30 ∨ c = 31 ∨ 36 < c → (sI σ a 0 k v).1 c = σ.1 c := fun c h1 => sI_k (by omega)
  have ht : ∀ c, c ≠ 6 → (sI τ 6 k f v).1 c = τ.1 c := fun c h1 => sI_k h1
  refine ⟨h.1.i (by omega) _ _ _, h.2.1.o (hk _ (by decide)) (hk _ (by decide)) (hk _ (by decide)) (hk _ (by decide)) (ht _ (by decide)) (ht _ (by decide)) (ht _ (by decide)) (ht _ (by decide)), h.2.2.1.o rfl rfl, ?_, h.2.2.2.2.1.o (by rw [hk _ (by decide)]) (hk _ (by decide)) (ht _ (by decide)) (ht _ (by decide)), h.2.2.2.2.2.1.o (by rw [hk _ (by decide)]) (hk _ (by decide)) rfl, h.2.2.2.2.2.2.o (hk _ (by decide)) (hk _ (by decide))⟩
  intro k' hk'
  obtain ⟨h1, h2⟩ := h.2.2.2.1 k' hk'
  rcases haf with ⟨rfl, rfl⟩ | ⟨rfl, rfl⟩ | ⟨rfl, rfl⟩ | ⟨rfl, rfl⟩ <;> refine ⟨by simp [sI, h1], fun h0 => ?_⟩ <;> simp [sI] at h0 ⊢ <;> exact h2 h0
theorem RM.rs {bm : Bool} {κ τ σ : Sg} {ls : List Lt} {qs : Qu} (h : RM bm κ τ ls qs σ) (k : Nat) (v : Int64) : RM bm κ (sL τ 6 k 9 v) ls qs (sL σ 37 0 k v) := by
  refine ⟨h.1.l (by decide) _ _ _, h.2.1.o rfl rfl rfl rfl rfl rfl rfl rfl, h.2.2.1.o (sL_k (by decide)) (sL_k (by decide)), ?_, h.2.2.2.2.1.o rfl rfl rfl rfl, h.2.2.2.2.2.1.o rfl rfl (sL_k (by decide)), h.2.2.2.2.2.2.o rfl rfl⟩
  intro k' hk'
  obtain ⟨h1, h2⟩ := h.2.2.2.1 k' hk'
  exact ⟨by simp [sL, h1], fun h0 => by simp [sL]; exact h2 h0⟩
theorem RM.cnt {bm : Bool} {κ τ σ : Sg} {ls : List Lt} {qs : Qu} (h : RM bm κ τ ls qs σ) {c : Nat} (hc : 1 ≤ c ∧ c < 8) : RM bm κ (aCnt τ c) ls qs (sI σ 41 0 c (σ.1 41 0 c + 1)) := by
  have hk : ∀ b, b ≠ 41 → (sI σ 41 0 c (σ.1 41 0 c + 1)).1 b = σ.1 b := fun b h1 => sI_k h1
  have ht : ∀ b, b ≠ 2 → (aCnt τ c).1 b = τ.1 b := fun b h1 => sI_k h1
  refine ⟨h.1.i (by decide) _ _ _, h.2.1.o (hk _ (by decide)) (hk _ (by decide)) (hk _ (by decide)) (hk _ (by decide)) (ht _ (by decide)) (ht _ (by decide)) (ht _ (by decide)) (ht _ (by decide)), h.2.2.1.o rfl rfl, h.2.2.2.1.o (hk _ (by decide)) (hk _ (by decide)) (hk _ (by decide)) (hk _ (by decide)) (hk _ (by decide)) (hk _ (by decide)) (hk _ (by decide)) (hk _ (by decide)) rfl rfl (ht _ (by decide)) rfl, ⟨?_, fun f h1 h2 => ?_⟩, h.2.2.2.2.2.1.o (by rw [hk _ (by decide)]) (hk _ (by decide)) rfl, h.2.2.2.2.2.2.o (hk _ (by decide)) (hk _ (by decide))⟩
  · rw [hk _ (by decide), ht _ (by decide)]; exact h.2.2.2.2.1.1
  · have h3 := h.2.2.2.2.1.2 f h1 h2
    have h4 := h.2.2.2.2.1.2 c hc.1 hc.2
    unfold aCnt
    simp [sI, h3, h4]
/-- a letter goes behind the others -/
theorem RM.let {bm : Bool} {κ τ σ σ1 : Sg} {ls : List Lt} {qs : Qu} (h : RM bm κ τ ls qs σ) {l : Lt} (hn : ls.length ≤ 189) (hE : EqC bm κ σ1) (hk : ∀ b, b ≠ 20 → b ≠ 38 → σ1.1 b = σ.1 b) (hL : ∀ b, b ≠ 39 → σ1.2.1 b = σ.2.1 b) (h0 : σ1.1 20 0 0 = σ.1 20 0 0) (h20 : σ1.1 20 0 20 = nI (ls.length + 1)) (h38 : ∀ i, i < 7 * ls.length → σ1.1 38 0 i = σ.1 38 0 i) (h39 : ∀ i, i < 4 * ls.length → σ1.2.1 39 0 i = σ.2.1 39 0 i) (hl : σ1.1 38 0 (7 * ls.length) = nI (lk l) ∧ σ1.1 38 0 (7 * ls.length + 1) = nI (lf l) ∧ σ1.1 38 0 (7 * ls.length + 2) = nI (lt l) ∧ σ1.1 38 0 (7 * ls.length + 3) = nI (lp l) ∧ σ1.1 38 0 (7 * ls.length + 4) = ln l ∧ σ1.1 38 0 (7 * ls.length + 5) = lc l) (hw : ∀ w, w < 4 → σ1.2.1 39 0 (4 * ls.length + w) = lw l w) : RM bm κ τ (ls ++ [l]) qs σ1 := by
  refine ⟨hE, h.2.1.o (hk _ (by decide) (by decide)) (hk _ (by decide) (by decide)) (hk _ (by decide) (by decide)) (hk _ (by decide) (by decide)) rfl rfl rfl rfl, h.2.2.1.o (hL _ (by decide)) rfl, h.2.2.2.1.o (hk _ (by decide) (by decide)) (hk _ (by decide) (by decide)) (hk _ (by decide) (by decide)) (hk _ (by decide) (by decide)) (hk _ (by decide) (by decide)) (hk _ (by decide) (by decide)) (hk _ (by decide) (by decide)) (hk _ (by decide) (by decide)) (hL _ (by decide)) (hL _ (by decide)) rfl rfl, h.2.2.2.2.1.o h0 (hk _ (by decide) (by decide)) rfl rfl, ⟨by rw [h20]; simp, by simp; omega, fun j l' hj => ?_⟩, h.2.2.2.2.2.2.o (hk _ (by decide) (by decide)) (hk _ (by decide) (by decide))⟩
  by_cases hjl : j < ls.length
  · rw [List.getElem?_append_left hjl] at hj
    obtain ⟨⟨a0, a1, a2, a3, a4, a5⟩, aw⟩ := h.2.2.2.2.2.1.2.2 j l' hj
    refine ⟨⟨?_, ?_, ?_, ?_, ?_, ?_⟩, fun w hw => ?_⟩
    · rw [h38 _ (by omega)]; exact a0
    · rw [h38 _ (by omega)]; exact a1
    · rw [h38 _ (by omega)]; exact a2
    · rw [h38 _ (by omega)]; exact a3
    · rw [h38 _ (by omega)]; exact a4
    · rw [h38 _ (by omega)]; exact a5
    · rw [h39 _ (by omega)]; exact aw w hw
  · have hlt := (List.getElem?_eq_some_iff.mp hj).1
    have hje : j = ls.length := by simp at hlt; omega
    subst hje
    simp at hj
    subst hj
    exact ⟨hl, hw⟩
theorem M_send {bm : Bool} {κ σ : Sg} {s : St} (h : RMs bm κ s σ) (hn : s.2.1.length ≤ 188) {kd fr to pg : Nat} {nd cp : Int32} (hf : fr < 6) (hp : pg < 8) (hkd : kd < 7) (Q : Sg → Prop) (hQ : ∀ σ1, RMs bm κ (aSend s kd fr to pg nd cp) σ1 → Q σ1) : wp_X5_send σ (nI kd) (nI fr) (nI to) (nI pg) nd cp Q := by
  obtain ⟨τ, ls, qs⟩ := s
  simp only at hn
  have hfl : σ.1 20 0 20 = nI ls.length := h.2.2.2.2.2.1.1
  unfold wp_X5_send
  rw [hfl, nI_lit7, nI_p1, nI_p2, nI_p3, nI_p4, nI_p5, i_n (7 * ls.length) (by omega), i_n (7 * ls.length + 1) (by omega), i_n (7 * ls.length + 2) (by omega), i_n (7 * ls.length + 3) (by omega), i_n (7 * ls.length + 4) (by omega), i_n (7 * ls.length + 5) (by omega)]
  refine ⟨vp_n (by omega) (by omega), fun σ1 e1 => ⟨vp_n (by omega) (by omega), fun σ4 e4 => ⟨vp_n (by omega) (by omega), fun σ7 e7 => ⟨vp_n (by omega) (by omega), fun σ10 e10 => ⟨vp_n (by omega) (by omega), fun σ13 e13 => ⟨vp_n (by omega) (by omega), fun σ16 e16 => ?_⟩⟩⟩⟩⟩⟩
  have k16 : ∀ b, b ≠ 38 → σ16.1 b = σ.1 b := by
    intro b hb
    rw [e16, sI_k hb, e13, sI_k hb, e10, sI_k hb, e7, sI_k hb, e4, sI_k hb, e1, sI_k hb]
  have l16 : σ16.2.1 = σ.2.1 := by rw [e16, e13, e10, e7, e4, e1]; rfl
  have q16 : EqC bm κ σ16 := by
    rw [e16, e13, e10, e7, e4, e1]
    exact (((((h.1.i (by decide) _ _ _).i (by decide) _ _ _).i (by decide) _ _ _).i (by decide) _ _ _).i (by decide) _ _ _).i (by decide) _ _ _
  have v16 : ∀ i, i < 7 * ls.length → σ16.1 38 0 i = σ.1 38 0 i := by
    intro i hi
    rw [e16, e13, e10, e7, e4, e1]
    simp [sI, show i ≠ 7 * ls.length by omega, show i ≠ 7 * ls.length + 1 by omega, show i ≠ 7 * ls.length + 2 by omega, show i ≠ 7 * ls.length + 3 by omega, show i ≠ 7 * ls.length + 4 by omega, show i ≠ 7 * ls.length + 5 by omega]
  have w16 : σ16.1 38 0 (7 * ls.length) = nI kd ∧ σ16.1 38 0 (7 * ls.length + 1) = nI fr ∧ σ16.1 38 0 (7 * ls.length + 2) = nI to ∧ σ16.1 38 0 (7 * ls.length + 3) = nI pg ∧ σ16.1 38 0 (7 * ls.length + 4) = nd ∧ σ16.1 38 0 (7 * ls.length + 5) = cp := by
    rw [e16, e13, e10, e7, e4, e1]
    simp [sI]
  -- the loop over the four words
  have L : ∀ (m w : Nat) (σ' : Sg), w + m = 4 → σ'.1 = σ16.1 → (∀ b, b ≠ 39 → σ'.2.1 b = σ.2.1 b) → σ'.2.2 = σ16.2.2 → EqC bm κ σ' → (∀ i, i < 4 * ls.length → σ'.2.1 39 0 i = σ.2.1 39 0 i) → (∀ v, v < w → σ'.2.1 39 0 (4 * ls.length + v) = lwd τ kd fr pg v) → lp_X5_send_73 (nI kd) (nI fr) (nI to) (nI pg) nd cp Q (m + 1) σ' (nI (7 * ls.length)) (nI w) := by
    intro m
    induction m with
    | zero =>
      intro w σ' hw a1 a2 a3 a4 a5 a6
      have hw4 : w = 4 := by omega
      subst hw4
      rw [lp_X5_send_73]
      refine ⟨fun _ => ?_, fun c => absurd (nI_le (Nat.le_refl 4) (by decide)) c⟩
      intro σ20 e20 σ22 e22
      refine hQ σ22 ?_
      have f1 : σ'.1 20 0 20 = nI ls.length := by rw [a1, k16 _ (by decide)]; exact hfl
      have h1 : RM bm κ τ (ls ++ [(kd, fr, to, pg, nd, cp, lwd τ kd fr pg)]) qs σ20 := by
        have k20 : ∀ b, b ≠ 20 → σ20.1 b = σ'.1 b := fun b hb => by rw [e20, sI_k hb]
        have l20 : σ20.2.1 = σ'.2.1 := by rw [e20]; rfl
        refine h.let (by show ls.length ≤ 189; omega) (by rw [e20]; exact a4.i (by decide) _ _ _) (fun b h1 h2 => ?_) (fun b hb => ?_) ?_ ?_ (fun i hi => ?_) (fun i hi => ?_) ?_ (fun w hw => ?_)
        · rw [k20 b h1, a1, k16 b h2]
        · rw [l20]; exact a2 b hb
        · rw [e20]; simp [sI]; rw [a1, k16 _ (by decide)]
        · rw [e20, f1]; simp [sI, nI_p1]
        · rw [k20 38 (by decide), a1]; exact v16 i hi
        · rw [l20]; exact a5 i hi
        · rw [k20 38 (by decide), a1]; exact w16
        · rw [l20]; exact a6 w hw
      rw [ixl1] at e22
      rw [e22]
      exact h1.cnt (by decide)
    | succ m ih =>
      intro w σ' hw a1 a2 a3 a4 a5 a6
      rw [lp_X5_send_73]
      refine ⟨fun c => absurd c (nI_ge (a := w) (b := 4) (by omega) (by omega)), fun _ => ?_⟩
      have f1 : σ'.1 20 0 20 = nI ls.length := by rw [a1, k16 _ (by decide)]; exact hfl
      rw [f1, nI_4lit, nI_add, i_n (4 * ls.length + w) (by omega), nI_p1]
      have hv : vp_in (nI (4 * ls.length + w)) 800 := vp_n (by omega) (by omega)
      have step : ∀ (x : Int64) (σn : Sg), x = lwd τ kd fr pg w → σn = sL σ' 39 0 (4 * ls.length + w) x → lp_X5_send_73 (nI kd) (nI fr) (nI to) (nI pg) nd cp Q (m + 1) σn (nI (7 * ls.length)) (nI (w + 1)) := by
        intro x σn ex en
        refine ih (w + 1) σn (by omega) (by rw [en]; exact a1) (fun b hb => by rw [en, sL_k hb]; exact a2 b hb) (by rw [en]; exact a3) (by rw [en]; exact a4.l (by decide) _ _ _) (fun i hi => ?_) (fun v hv => ?_)
        · rw [en]
          simp [sL, show i ≠ 4 * ls.length + w by omega]
          exact a5 i hi
        · rw [en]
          by_cases e : v = w
          · subst e; simp [sL, ex]
          · simp [sL, e]; exact a6 v (by omega)
      have hwd : σ'.2.1 25 0 (32 * fr + (4 * pg + w)) = τ.2.1 11 fr (pg * 4 + w) := by
        rw [a2 25 (by decide), h.2.2.1 fr (4 * pg + w) hf (by omega), Nat.mul_comm 4 pg]
      have hpl : (4 * (8 * nI fr + nI pg) + nI w : Int32) = nI (32 * fr + (4 * pg + w)) := by
        rw [nI_lit8, nI_add, nI_4lit, nI_add]
        congr 1
        omega
      refine ⟨fun c3 => ?_, fun c3 => ⟨fun c4 => ?_, fun c4 => ⟨hv, ?_⟩⟩⟩
      · have k3 : kd = 3 := nI_inj (by omega) (by omega) c3
        unfold wp_X5_place
        dsimp only
        rw [hpl, i_n _ (by omega), hwd]
        refine ⟨vp_n (by omega) (by omega), hv, fun σn en => step _ σn ?_ en⟩
        simp [lwd, k3]
      · have k4 : kd = 4 := nI_inj (by omega) (by omega) c4
        unfold wp_X5_place
        dsimp only
        rw [hpl, i_n _ (by omega), hwd]
        refine ⟨vp_n (by omega) (by omega), hv, fun σn en => step _ σn ?_ en⟩
        simp [lwd, k4]
      · intro σn en
        refine step 0 σn ?_ en
        rw [lwd_n]
        intro z
        rcases z with z | z
        · exact c3 (by rw [z]; rfl)
        · exact c4 (by rw [z]; rfl)
  exact ⟨5, L 4 0 σ16 (by decide) rfl (fun b _ => by rw [l16]) rfl q16 (fun i _ => by rw [l16]) (fun v hv => by omega)⟩
