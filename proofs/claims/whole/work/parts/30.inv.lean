/-! PURE: the invariant of the protocol -/
def wt (τ : Sg) (k : Nat) : Nat := ix (τ.1 6 k 1)
def pg (τ : Sg) (k : Nat) : Nat := ix (τ.1 6 k 2)
def wd (τ : Sg) (k : Nat) : Nat := ix (τ.1 6 k 3)
def an (τ : Sg) (k : Nat) : Nat := ix (τ.1 6 k 6)
def gs (τ : Sg) (k p : Nat) : Nat := ix (τ.1 9 k p)
def nd (k : Nat) : Nat := if k = 1 ∨ k = 3 then 1 else if k = 2 ∨ k = 4 then 2 else 3
def tid (l : Lt) : Nat × Nat := if lk l = 1 ∨ lk l = 2 then (ix (ln l), ix (ln l)) else if lk l = 5 then (lf l, lt l) else if lk l = 6 then (lt l, lf l) else (lt l, lt l)
def LW (N : Nat) (τ : Sg) (l : Lt) : Prop := (1 ≤ lk l ∧ lk l ≤ 6) ∧ lf l < N ∧ lt l < N ∧ lp l < 8 ∧ (tid l).1 < N ∧ (tid l).2 < N ∧ wt τ (tid l).1 = nd (lk l) ∧ pg τ (tid l).1 = lp l ∧ (5 ≤ lk l → lf l ≠ lt l) ∧ (lk l ≤ 2 → ln l = nI (ix (ln l)))
def QE (N : Nat) (τ : Sg) (ls : List Lt) (p : Nat) (e : Nat × Nat) : Prop := (e.1 = 1 ∨ e.1 = 2) ∧ e.2 < N ∧ wt τ e.2 = e.1 ∧ pg τ e.2 = p ∧ ∀ l, l ∈ ls → tid l ≠ (e.2, e.2)
def IvT (N : Nat) (τ : Sg) (ls : List Lt) (qs : Qu) (pp : Nat) (es : List (Nat × Nat)) : Prop :=
  (∀ l, l ∈ ls → LW N τ l) ∧ ls.Pairwise (fun a b => tid a ≠ tid b) ∧
  (∀ k p, k < 6 → p < 8 → (qs k p = [] ∨ ((wt τ k = 2 ∨ wt τ k = 3) ∧ pg τ k = p))) ∧
  (∀ k p e, k < 6 → p < 8 → e ∈ qs k p → QE N τ ls p e) ∧
  (∀ k p k' p' e e', k < 6 → p < 8 → k' < 6 → p' < 8 → e ∈ qs k p → e' ∈ qs k' p' → e.2 = e'.2 → k = k' ∧ p = p') ∧
  (∀ k p, k < 6 → p < 8 → (qs k p).Pairwise (fun e e' => e.2 ≠ e'.2)) ∧
  (∀ e, e ∈ es → QE N τ ls pp e ∧ ∀ k p e', k < 6 → p < 8 → e' ∈ qs k p → e'.2 ≠ e.2) ∧ es.Pairwise (fun e e' => e.2 ≠ e'.2)
def TyK (N : Nat) (τ : Sg) (k : Nat) : Prop := (τ.1 6 k 1 = nI (wt τ k) ∧ wt τ k ≤ 3) ∧ (τ.1 6 k 2 = nI (pg τ k) ∧ pg τ k < 8) ∧ (τ.1 6 k 3 = nI (wd τ k) ∧ wd τ k < 4) ∧ (τ.1 6 k 6 = nI (an τ k) ∧ an τ k ≤ 6) ∧ (wt τ k ≠ 3 → an τ k = 0) ∧ (τ.1 6 k 0 = 0 ∨ τ.1 6 k 0 = 1) ∧ (wt τ k ≠ 0 → τ.1 6 k 0 = 1 ∧ k < N) ∧ (τ.1 6 k 7 = 0 ∨ τ.1 6 k 7 = 1)
def TyP (N : Nat) (τ : Sg) (k p : Nat) : Prop := (τ.1 7 k p = 0 ∨ τ.1 7 k p = 1 ∨ τ.1 7 k p = 2) ∧ (τ.1 8 k p = 0 ∨ τ.1 8 k p = 1) ∧ (τ.1 9 k p = nI (gs τ k p) ∧ gs τ k p < N) ∧ (τ.1 8 k p = 1 → k < N) ∧ bt (τ.1 10 k p) k = false
def Ty (N : Nat) (τ : Sg) : Prop := (2 ≤ N ∧ N ≤ 6 ∧ τ.1 0 0 3 = nI N) ∧ (∀ k, k < 6 → TyK N τ k) ∧ ∀ k p, k < 6 → p < 8 → TyP N τ k p
/-- whose page it is -/
def IvO (τ : Sg) (ls : List Lt) : Prop :=
  (∀ k p, k < 6 → p < 8 → τ.1 8 k p = 1 → ¬ (wt τ k = 3 ∧ pg τ k = p) → τ.1 7 k p ≠ 0) ∧
  (∀ k, k < 6 → wt τ k = 1 → τ.1 8 k (pg τ k) = 0) ∧
  (∀ k k' p, k < 6 → k' < 6 → p < 8 → τ.1 8 k p = 1 → τ.1 8 k' p = 1 → k = k') ∧
  (∀ k, k < 6 → wt τ k = 3 → τ.1 8 k (pg τ k) = 1) ∧
  (∀ l, l ∈ ls → lk l = 4 → ∀ k, k < 6 → τ.1 8 k (lp l) = 0) ∧
  ls.Pairwise (fun a b => lk a = 4 → lk b = 4 → lp a ≠ lp b)
def isTok (k : Nat) (l : Lt) : Bool := decide (5 ≤ lk l ∧ (tid l).1 = k)
def IvC (τ : Sg) (ls : List Lt) : Prop := ∀ k, k < 6 → wt τ k = 3 → ls.countP (isTok k) = an τ k
def Inv (N : Nat) (s : St) (pp : Nat) (es : List (Nat × Nat)) : Prop := Ty N s.1 ∧ IvT N s.1 s.2.1 s.2.2 pp es ∧ IvO s.1 s.2.1 ∧ IvC s.1 s.2.1
-- what does not look at a kind
theorem wt_c {τ τ1 : Sg} (h : τ1.1 6 = τ.1 6) : wt τ1 = wt τ := by funext k; unfold wt; rw [h]
theorem pg_c {τ τ1 : Sg} (h : τ1.1 6 = τ.1 6) : pg τ1 = pg τ := by funext k; unfold pg; rw [h]
theorem an_c {τ τ1 : Sg} (h : τ1.1 6 = τ.1 6) : an τ1 = an τ := by funext k; unfold an; rw [h]
theorem wd_c {τ τ1 : Sg} (h : τ1.1 6 = τ.1 6) : wd τ1 = wd τ := by funext k; unfold wd; rw [h]
theorem TyK.c {N : Nat} {τ τ1 : Sg} {k : Nat} (h : TyK N τ k) (e : τ1.1 6 = τ.1 6) : TyK N τ1 k := by
  unfold TyK
  rw [wt_c e, pg_c e, an_c e, wd_c e, e]
  exact h
theorem LW.c {N : Nat} {τ τ1 : Sg} {l : Lt} (h : LW N τ l) (e : τ1.1 6 = τ.1 6) : LW N τ1 l := by
  unfold LW
  rw [wt_c e, pg_c e]
  exact h
theorem QE.c {N : Nat} {τ τ1 : Sg} {ls : List Lt} {p : Nat} {e0 : Nat × Nat} (h : QE N τ ls p e0) (e : τ1.1 6 = τ.1 6) : QE N τ1 ls p e0 := by
  unfold QE
  rw [wt_c e, pg_c e]
  exact h
theorem IvT.c {N : Nat} {τ τ1 : Sg} {ls : List Lt} {qs : Qu} {pp : Nat} {es : List (Nat × Nat)} (h : IvT N τ ls qs pp es) (e : τ1.1 6 = τ.1 6) : IvT N τ1 ls qs pp es := by
  obtain ⟨h1, h2, h3, h4, h5, h6, h7, h8⟩ := h
  refine ⟨fun l hl => (h1 l hl).c e, h2, ?_, fun k p e0 hk hp he => (h4 k p e0 hk hp he).c e, h5, h6, fun e0 he => ⟨(h7 e0 he).1.c e, (h7 e0 he).2⟩, h8⟩
  rw [wt_c e, pg_c e]
  exact h3
theorem IvC.c {τ τ1 : Sg} {ls : List Lt} (h : IvC τ ls) (e : τ1.1 6 = τ.1 6) : IvC τ1 ls := by
  unfold IvC
  rw [wt_c e, an_c e]
  exact h
/-- a letter takes the place of a pending asking -/
theorem IvT.add {N : Nat} {τ : Sg} {ls : List Lt} {qs : Qu} {pp : Nat} {e : Nat × Nat} {es : List (Nat × Nat)} (h : IvT N τ ls qs pp (e :: es)) {l : Lt} (hl : LW N τ l) (ht : tid l = (e.2, e.2)) : IvT N τ (ls ++ [l]) qs pp es := by
  obtain ⟨h1, h2, h3, h4, h5, h6, h7, h8⟩ := h
  have he := h7 e List.mem_cons_self
  refine ⟨fun l' hl' => ?_, ?_, h3, fun k p e0 hk hp h0 => ?_, h5, h6, fun e0 h0 => ⟨?_, (h7 e0 (List.mem_cons_of_mem _ h0)).2⟩, (List.pairwise_cons.mp h8).2⟩
  · rcases List.mem_append.mp hl' with z | z
    · exact h1 l' z
    · rw [List.mem_singleton] at z; rw [z]; exact hl
  · refine List.pairwise_append.mpr ⟨h2, List.pairwise_singleton _ _, fun x hx y hy => ?_⟩
    rw [List.mem_singleton] at hy
    rw [hy, ht]
    exact he.1.2.2.2.2 x hx
  · obtain ⟨q1, q2, q3, q4, q5⟩ := h4 k p e0 hk hp h0
    refine ⟨q1, q2, q3, q4, fun l' hl' => ?_⟩
    rcases List.mem_append.mp hl' with z | z
    · exact q5 l' z
    · rw [List.mem_singleton] at z
      rw [z, ht]
      intro c
      have : e.2 = e0.2 := (Prod.mk.inj c).1
      exact he.2 k p e0 hk hp h0 this.symm
  · obtain ⟨q1, q2, q3, q4, q5⟩ := (h7 e0 (List.mem_cons_of_mem _ h0)).1
    refine ⟨q1, q2, q3, q4, fun l' hl' => ?_⟩
    rcases List.mem_append.mp hl' with z | z
    · exact q5 l' z
    · rw [List.mem_singleton] at z
      rw [z, ht]
      intro c
      have : e.2 = e0.2 := (Prod.mk.inj c).1
      exact (List.pairwise_cons.mp h8).1 e0 h0 this
/-- a queue takes a pending asking -/
theorem IvT.que {N : Nat} {τ : Sg} {ls : List Lt} {qs : Qu} {p : Nat} {e : Nat × Nat} {es : List (Nat × Nat)} (h : IvT N τ ls qs p (e :: es)) {k : Nat} (hw : (wt τ k = 2 ∨ wt τ k = 3) ∧ pg τ k = p) : IvT N τ ls (uQ qs k p (qs k p ++ [e])) p es := by
  obtain ⟨h1, h2, h3, h4, h5, h6, h7, h8⟩ := h
  have he := h7 e List.mem_cons_self
  have hm : ∀ {k' p' e'}, e' ∈ uQ qs k p (qs k p ++ [e]) k' p' → e' ∈ qs k' p' ∨ (k' = k ∧ p' = p ∧ e' = e) := by
    intro k' p' e' h'
    unfold uQ at h'
    by_cases c : k' = k ∧ p' = p
    · rw [if_pos c] at h'
      rcases List.mem_append.mp h' with z | z
      · rw [c.1, c.2]; exact Or.inl z
      · rw [List.mem_singleton] at z; exact Or.inr ⟨c.1, c.2, z⟩
    · rw [if_neg c] at h'; exact Or.inl h'
  refine ⟨h1, h2, fun k' p' hk hp => ?_, fun k' p' e0 hk hp h0 => ?_, fun k1 p1 k2 p2 e1 e2 a1 a2 a3 a4 m1 m2 e12 => ?_, fun k' p' hk hp => ?_, fun e0 h0 => ⟨(h7 e0 (List.mem_cons_of_mem _ h0)).1, fun k' p' e' hk hp h' => ?_⟩, (List.pairwise_cons.mp h8).2⟩
  · by_cases c : k' = k ∧ p' = p
    · rw [c.1, c.2]; exact Or.inr hw
    · have := h3 k' p' hk hp
      unfold uQ
      rw [if_neg c]
      exact this
  · rcases hm h0 with z | ⟨rfl, rfl, rfl⟩
    · exact h4 k' p' e0 hk hp z
    · exact he.1
  · rcases hm m1 with z1 | ⟨rfl, rfl, rfl⟩ <;> rcases hm m2 with z2 | ⟨rfl, rfl, rfl⟩
    · exact h5 k1 p1 k2 p2 e1 e2 a1 a2 a3 a4 z1 z2 e12
    · exact absurd e12 (he.2 k1 p1 e1 a1 a2 z1)
    · exact absurd e12.symm (he.2 k2 p2 e2 a3 a4 z2)
    · exact ⟨rfl, rfl⟩
  · unfold uQ
    by_cases c : k' = k ∧ p' = p
    · rw [if_pos c]
      refine List.pairwise_append.mpr ⟨?_, List.pairwise_singleton _ _, fun x hx y hy => ?_⟩
      · have := h6 k' p' hk hp
        rw [c.1, c.2] at this
        exact this
      · rw [List.mem_singleton] at hy
        rw [hy]
        exact he.2 k p x (by rw [← c.1]; exact hk) (by rw [← c.2]; exact hp) hx
    · rw [if_neg c]
      exact h6 k' p' hk hp
  · rcases hm h' with z | ⟨rfl, rfl, rfl⟩
    · exact (h7 e0 (List.mem_cons_of_mem _ h0)).2 k' p' e' hk hp z
    · exact (List.pairwise_cons.mp h8).1 e0 h0
theorem tok_no {k : Nat} {l : Lt} (h : lk l < 5) : isTok k l = false := by
  unfold isTok
  simp
  omega
theorem IvC.app {τ : Sg} {ls : List Lt} (h : IvC τ ls) {l : Lt} (hl : lk l < 5) : IvC τ (ls ++ [l]) := by
  intro k hk hw
  rw [List.countP_append, h k hk hw, List.countP_cons, tok_no hl]
  simp
theorem sI_6 {τ : Sg} {a k f : Nat} {v : Int32} (h : a ≠ 6) : (sI τ a k f v).1 6 = τ.1 6 := sI_k (Ne.symm h)
theorem aCnt_k {τ : Sg} {c b : Nat} (h : b ≠ 2) : (aCnt τ c).1 b = τ.1 b := sI_k h
theorem tid_12 {kd fr to p a : Nat} {cp : Int32} {w : Nat → Int64} (h : kd = 1 ∨ kd = 2) (ha : a < 6) : tid (kd, fr, to, p, nI a, cp, w) = (a, a) := by
  unfold tid
  rw [if_pos h, i_n a (by omega)]
theorem tid_34 {kd fr to p : Nat} {nd0 cp : Int32} {w : Nat → Int64} (h : kd = 3 ∨ kd = 4) : tid (kd, fr, to, p, nd0, cp, w) = (to, to) := by
  unfold tid
  rw [if_neg (by first | omega | (simp only [lk]; omega)), if_neg (by first | omega | (simp only [lk]; omega)), if_neg (by first | omega | (simp only [lk]; omega))]
/-- the asking of node e.2 comes to node k -/
theorem I_ask {N : Nat} {s : St} {p : Nat} {e : Nat × Nat} {es : List (Nat × Nat)} (h : Inv N s p (e :: es)) (hp : p < 8) {k : Nat} (hkN : k < N) : Inv N (aAsk s k e.1 p e.2) p es := by
  obtain ⟨τ, ls, qs⟩ := s
  obtain ⟨⟨⟨hN2, hN6, eN⟩, hK, hPt⟩, hT, hO, hC⟩ := h
  simp only at eN hK hPt hT hO hC
  have hk : k < 6 := by omega
  obtain ⟨⟨q1, q2, q3, q4, q5⟩, q6⟩ := hT.2.2.2.2.2.2.1 e List.mem_cons_self
  have ha : e.2 < 6 := by omega
  have hP := hPt k p hk hp
  obtain ⟨hK1, hK2, hK3, hK4⟩ := hK k hk
  have hwk : ∀ c : Nat, c < 4 → (τ.1 6 k 1 = nI c ↔ wt τ k = c) := fun c hc => by
    rw [hK1.1]
    exact ⟨fun z => nI_inj (by omega) (by omega) z, fun z => by rw [z]⟩
  have hpk : τ.1 6 k 2 = nI p ↔ pg τ k = p := by
    rw [hK2.1]
    exact ⟨fun z => nI_inj (by omega) (by omega) z, fun z => by rw [z]⟩
  have hin : ((τ.1 6 k 1 = 2 ∨ τ.1 6 k 1 = 3) ∧ τ.1 6 k 2 = nI p) ↔ ((wt τ k = 2 ∨ wt τ k = 3) ∧ pg τ k = p) := by
    rw [hpk, ← hwk 2 (by decide), ← hwk 3 (by decide)]
    rfl
  unfold aAsk
  simp only
  by_cases c : (τ.1 6 k 1 = 2 ∨ τ.1 6 k 1 = 3) ∧ τ.1 6 k 2 = nI p
  · rw [if_pos c]
    have := hT.que (k := k) (hin.mp c)
    exact ⟨⟨⟨hN2, hN6, eN⟩, hK, hPt⟩, this, hO, hC⟩
  rw [if_neg c]
  have hnw : ¬ ((wt τ k = 2 ∨ wt τ k = 3) ∧ pg τ k = p) := fun z => c (hin.mpr z)
  by_cases c8 : τ.1 8 k p = 0
  · rw [if_pos c8]
    -- sent on
    have h6 : ∀ t : Sg, (t = aCnt (aCnt τ 1) 2 ∨ (e.1 = 2 ∧ t = sI (aCnt (aCnt τ 1) 2) 9 k p (nI e.2))) → Inv N (t, ls ++ [(e.1, k, ix (τ.1 9 k p), p, nI e.2, 0, lwd τ e.1 k p)], qs) p es := by
      intro t ht
      have e6 : t.1 6 = τ.1 6 := by
        rcases ht with rfl | ⟨-, rfl⟩
        · rw [aCnt_k (by decide), aCnt_k (by decide)]
        · rw [sI_6 (by decide), aCnt_k (by decide), aCnt_k (by decide)]
      have eo : ∀ b, b ≠ 2 → b ≠ 9 → t.1 b = τ.1 b := by
        intro b h1 h2
        rcases ht with rfl | ⟨-, rfl⟩
        · rw [aCnt_k h1, aCnt_k h1]
        · rw [sI_k h2, aCnt_k h1, aCnt_k h1]
      have e9 : ∀ k' p', t.1 9 k' p' = τ.1 9 k' p' ∨ t.1 9 k' p' = nI e.2 := by
        intro k' p'
        rcases ht with rfl | ⟨-, rfl⟩
        · left; rw [aCnt_k (by decide), aCnt_k (by decide)]
        · by_cases z : k' = k ∧ p' = p
          · right; simp [sI, z]
          · left; simp [sI, z, aCnt]
      have htid : tid (e.1, k, ix (τ.1 9 k p), p, nI e.2, 0, lwd τ e.1 k p) = (e.2, e.2) := tid_12 q1 ha
      refine ⟨⟨⟨hN2, hN6, by rw [eo 0 (by decide) (by decide)]; exact eN⟩, fun k' hk' => (hK k' hk').c e6, fun k' p' hk' hp' => ?_⟩, (hT.c e6).add (LW.c (τ := τ) ?_ e6) htid, ?_, (IvC.app hC (by first | omega | (simp only [lk]; omega))).c e6⟩
      · obtain ⟨y1, y2, y3, y4, y5⟩ := hPt k' p' hk' hp'
        refine ⟨by rw [eo 7 (by decide) (by decide)]; exact y1, by rw [eo 8 (by decide) (by decide)]; exact y2, ?_, by rw [eo 8 (by decide) (by decide)]; exact y4, by rw [eo 10 (by decide) (by decide)]; exact y5⟩
        unfold gs
        rcases e9 k' p' with z | z
        · rw [z]; exact y3
        · rw [z, i_n e.2 (by omega)]; exact ⟨rfl, q2⟩
      · unfold LW
        rw [htid]
        refine ⟨by first | omega | (simp only [lk]; omega), hkN, hP.2.2.1.2, hp, q2, q2, ?_, q4, fun z => by first | omega | (simp only [lk] at z; omega), fun _ => by show nI e.2 = nI (ix (nI e.2)); rw [i_n e.2 (by omega)]⟩
        rw [q3]
        show e.1 = nd e.1
        unfold nd
        rcases q1 with z | z <;> rw [z] <;> rfl
      · obtain ⟨o1, o2, o3, o4, o5, o6⟩ := hO
        unfold IvO
        rw [wt_c e6, pg_c e6, eo 7 (by decide) (by decide), eo 8 (by decide) (by decide)]
        refine ⟨o1, o2, o3, o4, fun l hl h4 => ?_, List.pairwise_append.mpr ⟨o6, List.pairwise_singleton _ _, fun x hx y hy => ?_⟩⟩
        · rcases List.mem_append.mp hl with z | z
          · exact o5 l z h4
          · rw [List.mem_singleton] at z; rw [z] at h4; first | omega | (simp only [lk] at h4; omega)
        · rw [List.mem_singleton] at hy
          intro _ h4
          rw [hy] at h4
          first | omega | (simp only [lk] at h4; omega)
    by_cases c2 : e.1 = 2
    · rw [if_pos c2]; exact h6 _ (Or.inr ⟨c2, rfl⟩)
    · rw [if_neg c2]; exact h6 _ (Or.inl rfl)
  rw [if_neg c8]
  have hown : τ.1 8 k p = 1 := hP.2.1.resolve_left c8
  obtain ⟨o1, o2, o3, o4, o5, o6⟩ := hO
  by_cases c1 : e.1 = 1
  · rw [if_pos c1]
    -- given to read
    have hne : e.2 ≠ k := by
      intro z
      have hw1 : wt τ e.2 = 1 := by rw [q3, c1]
      have := o2 e.2 ha hw1
      rw [q4, z, hown] at this
      exact absurd this (by decide)
    have e6 : (aCnt (aCnt (sI (sI τ 10 k p (τ.1 10 k p ||| (1 <<< (nI e.2 &&& 31)))) 7 k p 1) 1) 3).1 6 = τ.1 6 := by rw [aCnt_k (by decide), aCnt_k (by decide), sI_6 (by decide), sI_6 (by decide)]
    have eo : ∀ b, b ≠ 2 → b ≠ 7 → b ≠ 10 → (aCnt (aCnt (sI (sI τ 10 k p (τ.1 10 k p ||| (1 <<< (nI e.2 &&& 31)))) 7 k p 1) 1) 3).1 b = τ.1 b := fun b h1 h2 h3 => by rw [aCnt_k h1, aCnt_k h1, sI_k h2, sI_k h3]
    have e7 : ∀ k' p', (aCnt (aCnt (sI (sI τ 10 k p (τ.1 10 k p ||| (1 <<< (nI e.2 &&& 31)))) 7 k p 1) 1) 3).1 7 k' p' = if k' = k ∧ p' = p then 1 else τ.1 7 k' p' := fun k' p' => by
      rw [aCnt_k (by decide), aCnt_k (by decide)]; simp [sI]
    have e10 : ∀ k' p', (aCnt (aCnt (sI (sI τ 10 k p (τ.1 10 k p ||| (1 <<< (nI e.2 &&& 31)))) 7 k p 1) 1) 3).1 10 k' p' = if k' = k ∧ p' = p then τ.1 10 k p ||| (1 <<< (nI e.2 &&& 31)) else τ.1 10 k' p' := fun k' p' => by
      rw [aCnt_k (by decide), aCnt_k (by decide)]; simp [sI]
    generalize aCnt (aCnt (sI (sI τ 10 k p (τ.1 10 k p ||| (1 <<< (nI e.2 &&& 31)))) 7 k p 1) 1) 3 = t at e6 eo e7 e10 ⊢
    have htid : tid (3, k, e.2, p, -1, 0, lwd τ 3 k p) = (e.2, e.2) := tid_34 (Or.inl rfl)
    refine ⟨⟨⟨hN2, hN6, by rw [eo 0 (by decide) (by decide) (by decide)]; exact eN⟩, fun k' hk' => (hK k' hk').c e6, fun k' p' hk' hp' => ?_⟩, (hT.c e6).add (LW.c (τ := τ) ?_ e6) htid, ?_, (IvC.app hC (by first | omega | (simp only [lk]; omega))).c e6⟩
    · obtain ⟨y1, y2, y3, y4, y5⟩ := hPt k' p' hk' hp'
      refine ⟨?_, by rw [eo 8 (by decide) (by decide) (by decide)]; exact y2, ?_, by rw [eo 8 (by decide) (by decide) (by decide)]; exact y4, ?_⟩
      · rw [e7]; split
        · exact Or.inr (Or.inl rfl)
        · exact y1
      · unfold gs; rw [eo 9 (by decide) (by decide) (by decide)]; exact y3
      · rw [e10]; split
        · rename_i z
          rw [z.1, bit_or (by omega) (by omega)]
          have := hP.2.2.2.2
          rw [this]
          simp [hne]
        · exact y5
    · unfold LW
      rw [htid]
      refine ⟨by first | omega | (simp only [lk]; omega), hkN, q2, hp, q2, q2, ?_, q4, fun z => by first | omega | (simp only [lk] at z; omega), fun z => by first | omega | (simp only [lk] at z; omega)⟩
      rw [q3, c1]; rfl
    · unfold IvO
      rw [wt_c e6, pg_c e6, eo 8 (by decide) (by decide) (by decide)]
      refine ⟨fun k' p' hk' hp' h8 hn => ?_, o2, o3, o4, fun l hl h4 => ?_, List.pairwise_append.mpr ⟨o6, List.pairwise_singleton _ _, fun x hx y hy => ?_⟩⟩
      · rw [e7]; split
        · decide
        · exact o1 k' p' hk' hp' h8 hn
      · rcases List.mem_append.mp hl with z | z
        · exact o5 l z h4
        · rw [List.mem_singleton] at z; rw [z] at h4; first | omega | (simp only [lk] at h4; omega)
      · rw [List.mem_singleton] at hy
        intro _ h4
        rw [hy] at h4
        first | omega | (simp only [lk] at h4; omega)
  · rw [if_neg c1]
    have c2 : e.1 = 2 := by omega
    have e6 : (sI (sI (sI (sI (aCnt (aCnt τ 1) 4) 10 k p 0) 8 k p 0) 7 k p 0) 9 k p (nI e.2)).1 6 = τ.1 6 := by rw [sI_6 (by decide), sI_6 (by decide), sI_6 (by decide), sI_6 (by decide), aCnt_k (by decide), aCnt_k (by decide)]
    have e0 : (sI (sI (sI (sI (aCnt (aCnt τ 1) 4) 10 k p 0) 8 k p 0) 7 k p 0) 9 k p (nI e.2)).1 0 = τ.1 0 := by rw [sI_k (by decide), sI_k (by decide), sI_k (by decide), sI_k (by decide), aCnt_k (by decide), aCnt_k (by decide)]
    have e7 : ∀ k' p', (sI (sI (sI (sI (aCnt (aCnt τ 1) 4) 10 k p 0) 8 k p 0) 7 k p 0) 9 k p (nI e.2)).1 7 k' p' = if k' = k ∧ p' = p then 0 else τ.1 7 k' p' := fun k' p' => by simp [sI, aCnt]
    have e8 : ∀ k' p', (sI (sI (sI (sI (aCnt (aCnt τ 1) 4) 10 k p 0) 8 k p 0) 7 k p 0) 9 k p (nI e.2)).1 8 k' p' = if k' = k ∧ p' = p then 0 else τ.1 8 k' p' := fun k' p' => by simp [sI, aCnt]
    have e9 : ∀ k' p', (sI (sI (sI (sI (aCnt (aCnt τ 1) 4) 10 k p 0) 8 k p 0) 7 k p 0) 9 k p (nI e.2)).1 9 k' p' = if k' = k ∧ p' = p then nI e.2 else τ.1 9 k' p' := fun k' p' => by simp [sI, aCnt]
    have e10 : ∀ k' p', (sI (sI (sI (sI (aCnt (aCnt τ 1) 4) 10 k p 0) 8 k p 0) 7 k p 0) 9 k p (nI e.2)).1 10 k' p' = if k' = k ∧ p' = p then 0 else τ.1 10 k' p' := fun k' p' => by simp [sI, aCnt]
    generalize sI (sI (sI (sI (aCnt (aCnt τ 1) 4) 10 k p 0) 8 k p 0) 7 k p 0) 9 k p (nI e.2) = t at e6 e0 e7 e8 e9 e10 ⊢
    have htid : tid (4, k, e.2, p, -1, τ.1 10 k p, lwd τ 4 k p) = (e.2, e.2) := tid_34 (Or.inr rfl)
    refine ⟨⟨⟨hN2, hN6, by rw [e0]; exact eN⟩, fun k' hk' => (hK k' hk').c e6, fun k' p' hk' hp' => ?_⟩, (hT.c e6).add (LW.c (τ := τ) ?_ e6) htid, ?_, (IvC.app hC (by first | omega | (simp only [lk]; omega))).c e6⟩
    · obtain ⟨y1, y2, y3, y4, y5⟩ := hPt k' p' hk' hp'
      unfold TyP gs
      rw [e7, e8, e9, e10]
      by_cases z : k' = k ∧ p' = p
      · rw [if_pos z, if_pos z, if_pos z, if_pos z, i_n e.2 (by omega)]
        exact ⟨Or.inl rfl, Or.inl rfl, ⟨rfl, q2⟩, fun y => absurd y (by decide), b_0 _⟩
      · rw [if_neg z, if_neg z, if_neg z, if_neg z]
        exact ⟨y1, y2, y3, y4, y5⟩
    · unfold LW
      rw [htid]
      refine ⟨by first | omega | (simp only [lk]; omega), hkN, q2, hp, q2, q2, ?_, q4, fun z => by first | omega | (simp only [lk] at z; omega), fun z => by first | omega | (simp only [lk] at z; omega)⟩
      rw [q3, c2]; rfl
    · unfold IvO
      rw [wt_c e6, pg_c e6]
      have ez : ∀ k', k' < 6 → t.1 8 k' p = 0 := fun k' hk' => by
        rw [e8]
        by_cases z : k' = k
        · rw [if_pos ⟨z, rfl⟩]
        · rw [if_neg (fun y => z y.1)]
          rcases (hPt k' p hk' hp).2.1 with y | y
          · exact y
          · exact absurd (o3 k' k p hk' hk hp y hown) z
      refine ⟨fun k' p' hk' hp' h8 hn => ?_, fun k' hk' hw => ?_, fun k1 k2 p' h1 h2 hp' y1 y2 => ?_, fun k' hk' hw => ?_, fun l hl h4 k' hk' => ?_, List.pairwise_append.mpr ⟨o6, List.pairwise_singleton _ _, fun x hx y hy => ?_⟩⟩
      · rw [e8] at h8
        by_cases z : k' = k ∧ p' = p
        · rw [if_pos z] at h8; exact absurd h8 (by decide)
        · rw [if_neg z] at h8
          rw [e7, if_neg z]
          exact o1 k' p' hk' hp' h8 hn
      · rw [e8]; split
        · rfl
        · exact o2 k' hk' hw
      · rw [e8] at y1 y2
        by_cases z1 : k1 = k ∧ p' = p
        · rw [if_pos z1] at y1; exact absurd y1 (by decide)
        · by_cases z2 : k2 = k ∧ p' = p
          · rw [if_pos z2] at y2; exact absurd y2 (by decide)
          · rw [if_neg z1] at y1
            rw [if_neg z2] at y2
            exact o3 k1 k2 p' h1 h2 hp' y1 y2
      · rw [e8]
        by_cases z : k' = k ∧ pg τ k' = p
        · exfalso
          rw [z.1] at hw
          exact hnw ⟨Or.inr hw, by rw [← z.1]; exact z.2⟩
        · rw [if_neg z]
          exact o4 k' hk' hw
      · rcases List.mem_append.mp hl with z | z
        · have := o5 l z h4 k' hk'
          rw [e8]; split
          · rfl
          · exact this
        · rw [List.mem_singleton] at z; rw [z]; exact ez k' hk'
      · rw [List.mem_singleton] at hy
        intro h4 _ hlp
        rw [hy] at hlp
        have hlp : lp x = p := hlp
        have := o5 x hx h4 k hk
        rw [hlp, hown] at this
        exact absurd this (by decide)
