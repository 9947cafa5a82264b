/-! PURE: how many letters there can be, free nodes, and what the steps keep -/
theorem nd_len : ∀ (n : Nat) (L : List Nat), L.Pairwise (fun a b => a ≠ b) → (∀ x, x ∈ L → x < n) → L.length ≤ n := by
  intro n
  induction n with
  | zero =>
    intro L _ h
    cases L with
    | nil => simp
    | cons a t => exact absurd (h a List.mem_cons_self) (by omega)
  | succ n ih =>
    intro L hp h
    by_cases hm : n ∈ L
    · have hnd : L.Nodup := hp
      have h1 := ih (L.erase n) (hp.sublist List.erase_sublist) (fun x hx => by
        have h3 := (hnd.mem_erase_iff).mp hx
        have := h x h3.2
        have := h3.1
        omega)
      have h2 := List.length_erase_of_mem hm
      omega
    · have h1 := ih L hp (fun x hx => by
        have := h x hx
        have : x ≠ n := fun e => hm (e ▸ hx)
        omega)
      omega
def cd (t : Nat × Nat) : Nat := 5 * t.1 + (if t.2 = t.1 then 0 else if t.2 < t.1 then t.2 else t.2 - 1)
theorem cd_q {t : Nat × Nat} (h1 : t.1 < 6) (h2 : t.2 < 6) : cd t / 5 = t.1 ∧ cd t < 30 := by
  unfold cd
  split
  · omega
  · split <;> omega
theorem cd_inj {t u : Nat × Nat} (h1 : t.1 < 6) (h2 : t.2 < 6) (h3 : u.1 < 6) (h4 : u.2 < 6) (hd : t.1 = u.1 → (t.2 = t.1 ↔ u.2 = u.1)) (hne : t ≠ u) : cd t ≠ cd u := by
  intro e
  have e1 : t.1 = u.1 := by rw [← (cd_q h1 h2).1, ← (cd_q h3 h4).1, e]
  have hd := hd e1
  have e2 : t.2 = u.2 := by
    unfold cd at e
    rw [e1] at e hd
    by_cases c : t.2 = u.1
    · rw [c, hd.mp c]
    · rw [if_neg c, if_neg (fun z => c (hd.mpr z))] at e
      have c' : u.2 ≠ u.1 := fun z => c (hd.mpr z)
      split at e <;> split at e <;> omega
  exact hne (Prod.ext e1 e2)
theorem LW.dg {N : Nat} {τ : Sg} {l : Lt} (h : LW N τ l) : ((tid l).2 = (tid l).1 ↔ wt τ (tid l).1 ≠ 3) ∧ (wt τ (tid l).1 = 3 ↔ 5 ≤ lk l) ∧ wt τ (tid l).1 ≠ 0 := by
  obtain ⟨h1, h2, h3, h4, h5, h6, h7, h8, h9, h10⟩ := h
  rw [h7]
  unfold tid nd
  have h12 : lk l = 1 ∨ lk l = 2 ∨ lk l = 3 ∨ lk l = 4 ∨ lk l = 5 ∨ lk l = 6 := by omega
  rcases h12 with z | z | z | z | z | z <;> rw [z] at h9 ⊢ <;> simp
  · exact Ne.symm (h9 (by omega))
  · exact h9 (by omega)
theorem nd_23 {k : Nat} : nd k ≤ 3 ∧ 1 ≤ nd k := by
  unfold nd
  split
  · omega
  · split <;> omega
theorem IvT.codes {N : Nat} {τ : Sg} {ls : List Lt} {qs : Qu} {pp : Nat} {es : List (Nat × Nat)} (h : IvT N τ ls qs pp es) (hN : N ≤ 6) : (ls.map (fun l => cd (tid l))).Pairwise (fun a b => a ≠ b) ∧ ∀ x, x ∈ ls.map (fun l => cd (tid l)) → x < 30 := by
  have hb : ∀ l, l ∈ ls → (tid l).1 < 6 ∧ (tid l).2 < 6 := fun l hl => by
    have := h.1 l hl
    exact ⟨by have := this.2.2.2.2.1; omega, by have := this.2.2.2.2.2.1; omega⟩
  refine ⟨?_, fun x hx => ?_⟩
  · rw [List.pairwise_map]
    refine h.2.1.imp_of_mem (fun {a b} ha hb' hne => ?_)
    refine cd_inj (hb a ha).1 (hb a ha).2 (hb b hb').1 (hb b hb').2 (fun e => ?_) hne
    rw [(h.1 a ha).dg.1, (h.1 b hb').dg.1, e]
  · obtain ⟨l, hl, rfl⟩ := List.mem_map.mp hx
    exact (cd_q (hb l hl).1 (hb l hl).2).2
theorem IvT.len30 {N : Nat} {τ : Sg} {ls : List Lt} {qs : Qu} {pp : Nat} {es : List (Nat × Nat)} (h : IvT N τ ls qs pp es) (hN : N ≤ 6) {k p : Nat} (hk : k < 6) (hp : p < 8) : ls.length + (qs k p).length ≤ 30 := by
  have hc := h.codes hN
  have := nd_len 30 (ls.map (fun l => cd (tid l)) ++ (qs k p).map (fun e => 5 * e.2)) ?_ ?_
  · simpa using this
  · refine List.pairwise_append.mpr ⟨hc.1, ?_, fun a ha b hb => ?_⟩
    · rw [List.pairwise_map]
      exact (h.2.2.2.2.2.1 k p hk hp).imp (fun {a b} z => by omega)
    · obtain ⟨l, hl, rfl⟩ := List.mem_map.mp ha
      obtain ⟨e, he, rfl⟩ := List.mem_map.mp hb
      intro z
      have hlw := h.1 l hl
      obtain ⟨q1, q2, q3, q4, q5⟩ := h.2.2.2.1 k p e hk hp he
      have h1 := (cd_q (t := tid l) (by have := hlw.2.2.2.2.1; omega) (by have := hlw.2.2.2.2.2.1; omega)).1
      have h2 : (tid l).1 = e.2 := by omega
      have h3 := hlw.dg.1.mpr (by rw [h2, q3]; omega)
      exact q5 l hl (Prod.ext h2 (h3.trans h2))
  · intro x hx
    rcases List.mem_append.mp hx with z | z
    · exact hc.2 x z
    · obtain ⟨e, he, rfl⟩ := List.mem_map.mp z
      have := (h.2.2.2.1 k p e hk hp he).2.1
      omega
theorem IvT.q5 {N : Nat} {τ : Sg} {ls : List Lt} {qs : Qu} {pp : Nat} {e : Nat × Nat} {es : List (Nat × Nat)} (h : IvT N τ ls qs pp (e :: es)) (hN : N ≤ 6) {k p : Nat} (hk : k < 6) (hp : p < 8) : (qs k p).length ≤ 5 := by
  have he := h.2.2.2.2.2.2.1 e List.mem_cons_self
  have := nd_len 6 (e.2 :: (qs k p).map (fun e => e.2)) ?_ ?_
  · simpa using this
  · refine List.pairwise_cons.mpr ⟨fun x hx => ?_, ?_⟩
    · obtain ⟨e', he', rfl⟩ := List.mem_map.mp hx
      exact Ne.symm (he.2 k p e' hk hp he')
    · rw [List.pairwise_map]
      exact h.2.2.2.2.2.1 k p hk hp
  · intro x hx
    rcases List.mem_cons.mp hx with z | z
    · have := he.1.2.1; omega
    · obtain ⟨e', he', rfl⟩ := List.mem_map.mp z
      have := (h.2.2.2.1 k p e' hk hp he').2.1
      omega
/-- no letter and no queue waits on behalf of node k -/
def Fr (k : Nat) (ls : List Lt) (qs : Qu) : Prop := (∀ l, l ∈ ls → (tid l).1 ≠ k) ∧ ∀ k' p' e, k' < 6 → p' < 8 → e ∈ qs k' p' → e.2 ≠ k
theorem IvT.len25 {N : Nat} {τ : Sg} {ls : List Lt} {qs : Qu} {pp : Nat} {es : List (Nat × Nat)} (h : IvT N τ ls qs pp es) (hN : N ≤ 6) {k : Nat} (hk : k < 6) (hf : Fr k ls qs) : ls.length ≤ 25 := by
  have hc := h.codes hN
  have := nd_len 30 (ls.map (fun l => cd (tid l)) ++ [5 * k, 5 * k + 1, 5 * k + 2, 5 * k + 3, 5 * k + 4]) ?_ ?_
  · simp at this; omega
  · refine List.pairwise_append.mpr ⟨hc.1, by simp, fun a ha b hb => ?_⟩
    obtain ⟨l, hl, rfl⟩ := List.mem_map.mp ha
    have hlw := h.1 l hl
    have h1 := (cd_q (t := tid l) (by have := hlw.2.2.2.2.1; omega) (by have := hlw.2.2.2.2.2.1; omega)).1
    have h2 := hf.1 l hl
    simp at hb
    omega
  · intro x hx
    rcases List.mem_append.mp hx with z | z
    · exact hc.2 x z
    · simp at z; omega
theorem Fr.w0 {N : Nat} {τ : Sg} {ls : List Lt} {qs : Qu} {pp : Nat} {es : List (Nat × Nat)} (h : IvT N τ ls qs pp es) {k : Nat} (hw : wt τ k = 0) : Fr k ls qs :=
  ⟨fun l hl e => (h.1 l hl).dg.2.2 (by rw [e]; exact hw), fun k' p' e hk hp he z => by
    have := (h.2.2.2.1 k' p' e hk hp he)
    have h3 := this.2.2.1
    rw [z, hw] at h3
    have := this.1
    omega⟩
theorem er_split : ∀ (ls : List Lt) (i : Nat) (l : Lt), ls[i]? = some l → ∃ A B, ls = A ++ l :: B ∧ ls.eraseIdx i = A ++ B
  | [], i, l, h => by simp at h
  | a :: t, 0, l, h => ⟨[], t, by simp at h; simp [h], by simp⟩
  | a :: t, i + 1, l, h => by
    obtain ⟨A, B, h1, h2⟩ := er_split t i l (by simpa using h)
    exact ⟨a :: A, B, by rw [h1]; rfl, by simp [h2]⟩
theorem ab_sub (A B : List Lt) (l : Lt) : (A ++ B).Sublist (A ++ l :: B) := (List.sublist_cons_self l B).append_left A
theorem IvT.rem {N : Nat} {τ : Sg} {A B : List Lt} {l : Lt} {qs : Qu} {pp : Nat} {es : List (Nat × Nat)} (h : IvT N τ (A ++ l :: B) qs pp es) : IvT N τ (A ++ B) qs pp es := by
  obtain ⟨h1, h2, h3, h4, h5, h6, h7, h8⟩ := h
  have hs := (ab_sub A B l).subset
  exact ⟨fun l' hl' => h1 l' (hs hl'), h2.sublist (ab_sub A B l), h3, fun k p e hk hp he => ⟨(h4 k p e hk hp he).1, (h4 k p e hk hp he).2.1, (h4 k p e hk hp he).2.2.1, (h4 k p e hk hp he).2.2.2.1, fun l' hl' => (h4 k p e hk hp he).2.2.2.2 l' (hs hl')⟩, h5, h6, fun e he => ⟨⟨(h7 e he).1.1, (h7 e he).1.2.1, (h7 e he).1.2.2.1, (h7 e he).1.2.2.2.1, fun l' hl' => (h7 e he).1.2.2.2.2 l' (hs hl')⟩, (h7 e he).2⟩, h8⟩
theorem pw_ne {A B : List Lt} {l : Lt} (h : (A ++ l :: B).Pairwise (fun a b => tid a ≠ tid b)) : ∀ l', l' ∈ A ++ B → tid l' ≠ tid l := by
  obtain ⟨h1, h2, h3⟩ := List.pairwise_append.mp h
  intro l' hl'
  rcases List.mem_append.mp hl' with z | z
  · exact h3 l' z l List.mem_cons_self
  · exact Ne.symm ((List.pairwise_cons.mp h2).1 l' z)
theorem Fr.rem {N : Nat} {τ : Sg} {A B : List Lt} {l : Lt} {qs : Qu} {pp : Nat} {es : List (Nat × Nat)} (h : IvT N τ (A ++ l :: B) qs pp es) (h4 : lk l ≤ 4) : Fr (tid l).1 (A ++ B) qs := by
  have hm : l ∈ A ++ l :: B := List.mem_append.mpr (Or.inr List.mem_cons_self)
  have hl := h.1 l hm
  have hn3 : wt τ (tid l).1 ≠ 3 := fun z => by have := hl.dg.2.1.mp z; omega
  have hd := hl.dg.1.mpr hn3
  refine ⟨fun l' hl' e => ?_, fun k' p' e hk hp he z => ?_⟩
  · have hl2 := h.1 l' ((ab_sub A B l).subset hl')
    have hd2 := hl2.dg.1.mpr (by rw [e]; exact hn3)
    exact pw_ne h.2.1 l' hl' (Prod.ext e (by rw [hd2, hd, e]))
  · have := (h.2.2.2.1 k' p' e hk hp he).2.2.2.2 l hm
    exact this (Prod.ext z.symm (hd.trans z.symm))
theorem IvT.pp {N : Nat} {τ : Sg} {ls : List Lt} {qs : Qu} {pp : Nat} (h : IvT N τ ls qs pp []) (p : Nat) : IvT N τ ls qs p [] := by
  obtain ⟨h1, h2, h3, h4, h5, h6, h7, h8⟩ := h
  exact ⟨h1, h2, h3, h4, h5, h6, fun e he => by simp at he, h8⟩
theorem IvT.pend {N : Nat} {τ : Sg} {ls : List Lt} {qs : Qu} {pp : Nat} (h : IvT N τ ls qs pp []) {k kd p : Nat} (hf : Fr k ls qs) (hkd : kd = 1 ∨ kd = 2) (hk : k < N) (hw : wt τ k = kd) (hp : pg τ k = p) : IvT N τ ls qs p [(kd, k)] := by
  obtain ⟨h1, h2, h3, h4, h5, h6, h7, h8⟩ := h
  refine ⟨h1, h2, h3, h4, h5, h6, fun e he => ?_, List.pairwise_singleton _ _⟩
  rw [List.mem_singleton] at he
  subst he
  exact ⟨⟨hkd, hk, hw, hp, fun l hl z => hf.1 l hl (by rw [z])⟩, fun k' p' e' hk' hp' he' => hf.2 k' p' e' hk' hp' he'⟩
/-- the hand of a free node changes -/
theorem IvT.hand {N : Nat} {τ τ1 : Sg} {ls : List Lt} {qs : Qu} {pp : Nat} (h : IvT N τ ls qs pp []) {k : Nat} (hf : Fr k ls qs) (h6 : ∀ k' f, k' ≠ k → τ1.1 6 k' f = τ.1 6 k' f) (hq : ∀ p, p < 8 → qs k p = [] ∨ ((wt τ1 k = 2 ∨ wt τ1 k = 3) ∧ pg τ1 k = p)) : IvT N τ1 ls qs pp [] := by
  have hw : ∀ k', k' ≠ k → wt τ1 k' = wt τ k' := fun k' hk => by unfold wt; rw [h6 k' 1 hk]
  have hpg : ∀ k', k' ≠ k → pg τ1 k' = pg τ k' := fun k' hk => by unfold pg; rw [h6 k' 2 hk]
  obtain ⟨h1, h2, h3, h4, h5, h6, h7, h8⟩ := h
  refine ⟨fun l hl => ?_, h2, fun k' p' hk hp => ?_, fun k' p' e hk hp he => ?_, h5, ‹_›, fun e he => by simp at he, h8⟩
  · have := h1 l hl
    unfold LW at this ⊢
    rw [hw _ (hf.1 l hl), hpg _ (hf.1 l hl)]
    exact this
  · by_cases c : k' = k
    · subst c; exact hq p' hp
    · rw [hw _ c, hpg _ c]; exact h3 k' p' hk hp
  · have := h4 k' p' e hk hp he
    have hne := hf.2 k' p' e hk hp he
    unfold QE at this ⊢
    rw [hw _ hne, hpg _ hne]
    exact this
/-- a queue is emptied into the pending askings -/
theorem IvT.emp {N : Nat} {τ τ1 : Sg} {ls : List Lt} {qs : Qu} {pp : Nat} (h : IvT N τ ls qs pp []) {k p : Nat} (hk6 : k < 6) (hp8 : p < 8) (hw3 : wt τ k = 3) (hp3 : pg τ k = p) (hf : Fr k ls qs) (h6 : ∀ k' f, k' ≠ k → τ1.1 6 k' f = τ.1 6 k' f) : IvT N τ1 ls (uQ qs k p []) p (qs k p) := by
  have hw : ∀ k', k' ≠ k → wt τ1 k' = wt τ k' := fun k' hk => by unfold wt; rw [h6 k' 1 hk]
  have hpg : ∀ k', k' ≠ k → pg τ1 k' = pg τ k' := fun k' hk => by unfold pg; rw [h6 k' 2 hk]
  obtain ⟨h1, h2, h3, h4, h5, h6', h7, h8⟩ := h
  have hm : ∀ {k' p' e'}, e' ∈ uQ qs k p [] k' p' → e' ∈ qs k' p' ∧ ¬ (k' = k ∧ p' = p) := by
    intro k' p' e' h'
    unfold uQ at h'
    by_cases c : k' = k ∧ p' = p
    · rw [if_pos c] at h'; simp at h'
    · rw [if_neg c] at h'; exact ⟨h', c⟩
  have hQ : ∀ k' p' e, k' < 6 → p' < 8 → e ∈ qs k' p' → QE N τ1 ls p' e := fun k' p' e hk hp he => by
    have := h4 k' p' e hk hp he
    have hne := hf.2 k' p' e hk hp he
    unfold QE at this ⊢
    rw [hw _ hne, hpg _ hne]
    exact this
  refine ⟨fun l hl => ?_, h2, fun k' p' hk hp => ?_, fun k' p' e hk hp he => hQ k' p' e hk hp (hm he).1, fun k1 p1 k2 p2 e1 e2 a1 a2 a3 a4 m1 m2 e12 => h5 k1 p1 k2 p2 e1 e2 a1 a2 a3 a4 (hm m1).1 (hm m2).1 e12, fun k' p' hk hp => ?_, fun e he => ⟨hQ k p e hk6 hp8 he, fun k' p' e' hk hp he' z => ?_⟩, h6' k p hk6 hp8⟩
  · have := h1 l hl
    unfold LW at this ⊢
    rw [hw _ (hf.1 l hl), hpg _ (hf.1 l hl)]
    exact this
  · unfold uQ
    by_cases c : k' = k ∧ p' = p
    · rw [if_pos c]; exact Or.inl rfl
    · rw [if_neg c]
      by_cases d : k' = k
      · rcases h3 k' p' hk hp with z | z
        · exact Or.inl z
        · exfalso
          rw [d] at z
          exact c ⟨d, by rw [← z.2, hp3]⟩
      · rw [hw _ d, hpg _ d]; exact h3 k' p' hk hp
  · unfold uQ
    by_cases c : k' = k ∧ p' = p
    · rw [if_pos c]; exact List.Pairwise.nil
    · rw [if_neg c]; exact h6' k' p' hk hp
  · exact (hm he').2 (h5 k' p' k p e' e hk hp hk6 hp8 (hm he').1 he z)
theorem IvT.app {N : Nat} {τ : Sg} {ls L : List Lt} {qs : Qu} {pp : Nat} (h : IvT N τ ls qs pp []) (hL : ∀ l, l ∈ L → LW N τ l ∧ 5 ≤ lk l) (hp : L.Pairwise (fun a b => tid a ≠ tid b)) (hx : ∀ l, l ∈ ls → ∀ l', l' ∈ L → tid l ≠ tid l') : IvT N τ (ls ++ L) qs pp [] := by
  obtain ⟨h1, h2, h3, h4, h5, h6, h7, h8⟩ := h
  refine ⟨fun l hl => ?_, List.pairwise_append.mpr ⟨h2, hp, hx⟩, h3, fun k p e hk hp he => ⟨(h4 k p e hk hp he).1, (h4 k p e hk hp he).2.1, (h4 k p e hk hp he).2.2.1, (h4 k p e hk hp he).2.2.2.1, fun l' hl' => ?_⟩, h5, h6, fun e he => by simp at he, h8⟩
  · rcases List.mem_append.mp hl with z | z
    · exact h1 l z
    · exact (hL l z).1
  · rcases List.mem_append.mp hl' with z | z
    · exact (h4 k p e hk hp he).2.2.2.2 l' z
    · intro c
      have hd := (hL l' z).1.dg
      have h3' := hd.2.1.mpr (hL l' z).2
      exact hd.1.mp (by rw [c]) h3'
theorem Fr.tok0 {N : Nat} {τ : Sg} {ls : List Lt} {qs : Qu} {pp : Nat} {es : List (Nat × Nat)} (h : IvT N τ ls qs pp es) (hC : IvC τ ls) {k : Nat} (hk : k < 6) (hw : wt τ k = 3) (ha : an τ k = 0) : Fr k ls qs := by
  refine ⟨fun l hl e => ?_, fun k' p' e hk hp he z => ?_⟩
  · have h0 := hC k hk hw
    rw [ha] at h0
    have h1 := List.countP_eq_zero.mp h0 l hl
    have h5 := (h.1 l hl).dg.2.1.mp (by rw [e]; exact hw)
    exact h1 (by unfold isTok; simp [h5, e])
  · have := (h.2.2.2.1 k' p' e hk hp he)
    have h3 := this.2.2.1
    rw [z, hw] at h3
    have := this.1
    omega
theorem I_goL {N k p : Nat} (hp : p < 8) (hkN : k < N) : ∀ (es : List (Nat × Nat)) (s : St), Inv N s p es → Inv N (aGoL k p es s) p [] := by
  intro es
  induction es with
  | nil => intro s h; exact h
  | cons e es ih => intro s h; exact ih _ (I_ask h hp hkN)
theorem TyP.c {N : Nat} {τ τ1 : Sg} {k p : Nat} (h : TyP N τ k p) (e7 : τ1.1 7 = τ.1 7) (e8 : τ1.1 8 = τ.1 8) (e9 : τ1.1 9 = τ.1 9) (e10 : τ1.1 10 = τ.1 10) : TyP N τ1 k p := by
  unfold TyP gs
  rw [e7, e8, e9, e10]
  exact h
theorem aFin_k {τ : Sg} {k b : Nat} (h2 : b ≠ 2) (h6 : b ≠ 6) : (aFin τ k).1 b = τ.1 b := by
  funext k' f
  exact aFin_i b k' f h2 (fun z => h6 z.1)
theorem aTake_k {τ : Sg} {k : Nat} {x1 x2 x3 : Int32} {x4 : Int64} {b : Nat} (h6 : b ≠ 6) : (aTake τ k x1 x2 x3 x4).1 b = τ.1 b := by
  funext k' f
  simp [aTake, sI, sL, h6]
theorem aTake_6 {τ : Sg} {k : Nat} {x1 x2 x3 : Int32} {x4 : Int64} {k' f : Nat} (h : k' ≠ k) : (aTake τ k x1 x2 x3 x4).1 6 k' f = τ.1 6 k' f := by
  simp [aTake, sI, sL, h]
theorem TyK.o {N : Nat} {τ τ1 : Sg} {k : Nat} (h : TyK N τ k) (e : ∀ f, τ1.1 6 k f = τ.1 6 k f) : TyK N τ1 k := by
  unfold TyK wt pg wd an
  rw [e, e, e, e, e, e]
  exact h
theorem wt_o {τ τ1 : Sg} {k : Nat} (e : ∀ f, τ1.1 6 k f = τ.1 6 k f) : wt τ1 k = wt τ k ∧ pg τ1 k = pg τ k ∧ an τ1 k = an τ k := by
  unfold wt pg an
  rw [e, e, e]
  exact ⟨rfl, rfl, rfl⟩
theorem cP_hand {τ τ1 : Sg} {ls : List Lt} (hC : IvC τ ls) {k : Nat} (h6 : ∀ k' f, k' ≠ k → τ1.1 6 k' f = τ.1 6 k' f) (hk : wt τ1 k = 3 → ls.countP (isTok k) = an τ1 k) : IvC τ1 ls := by
  intro k' hk' hw
  by_cases c : k' = k
  · subst c; exact hk hw
  · have := wt_o (fun f => h6 k' f c)
    rw [this.2.2]
    exact hC k' hk' (by rw [← this.1]; exact hw)
theorem I_fia {N : Nat} {s : St} {pp k p : Nat} (h : Inv N s pp []) (hkN : k < N) (hp : p < 8) (hpk : pg s.1 k = p) : Inv N (aFia s k p) p [] := by
  obtain ⟨τ, ls, qs⟩ := s
  obtain ⟨⟨⟨hN2, hN6, eN⟩, hK, hPt⟩, hT, hO, hC⟩ := h
  simp only at eN hK hPt hT hO hC hpk
  have hk : k < 6 := by omega
  obtain ⟨hK1, hK2, hK3, hK4, hK5, hK6, hK7, hK8⟩ := hK k hk
  unfold aFia
  by_cases c : τ.1 6 k 1 = 3 ∧ τ.1 6 k 6 ≤ 0
  · rw [if_pos (show (τ, ls, qs).1.1 6 k 1 = 3 ∧ (τ, ls, qs).1.1 6 k 6 ≤ 0 from c)]
    have hw : wt τ k = 3 := nI_inj (by omega) (by omega) (hK1.1.symm.trans c.1)
    have ha : an τ k = 0 := by
      by_cases z : an τ k = 0
      · exact z
      · have h2 := c.2
        rw [hK4.1] at h2
        exact absurd h2 (nI_ge (a := 0) (by omega) (by omega))
    have hf := Fr.tok0 hT hC hk hw ha
    refine I_goL hp hkN (qs k p) _ ?_
    have h6 : ∀ k' f, k' ≠ k → (aFin (sI τ 7 k p 2) k).1 6 k' f = τ.1 6 k' f := fun k' f hne => by
      rw [aFin_i 6 k' f (by decide) (fun z => hne z.2.1), sI_6 (by decide)]
    have h6k : ∀ f, f ≠ 1 → f ≠ 8 → (aFin (sI τ 7 k p 2) k).1 6 k f = τ.1 6 k f := fun f h1 h8 => by
      rw [aFin_i 6 k f (by decide) (fun z => by omega), sI_6 (by decide)]
    have h61 : (aFin (sI τ 7 k p 2) k).1 6 k 1 = 0 := aFin_w
    have eo : ∀ b, b ≠ 2 → b ≠ 6 → b ≠ 7 → (aFin (sI τ 7 k p 2) k).1 b = τ.1 b := fun b h1 h2 h3 => by rw [aFin_k h1 h2, sI_k h3]
    have e7 : ∀ k' p', (aFin (sI τ 7 k p 2) k).1 7 k' p' = if k' = k ∧ p' = p then 2 else τ.1 7 k' p' := fun k' p' => by
      rw [aFin_k (by decide) (by decide)]; simp [sI]
    show Inv N (aFin (sI τ 7 k p 2) k, ls, uQ qs k p []) p (qs k p)
    generalize aFin (sI τ 7 k p 2) k = t at h6 h6k h61 eo e7 ⊢
    have hwt : wt t k = 0 := by unfold wt; rw [h61]; rfl
    refine ⟨⟨⟨hN2, hN6, by rw [eo 0 (by decide) (by decide) (by decide)]; exact eN⟩, fun k' hk' => ?_, fun k' p' hk' hp' => ?_⟩, hT.emp hk hp hw hpk hf h6, ?_, cP_hand hC h6 (fun z => by rw [hwt] at z; omega)⟩
    · by_cases d : k' = k
      · subst d
        have e2 : pg t k' = pg τ k' := by unfold pg; rw [h6k 2 (by decide) (by decide)]
        have e3 : wd t k' = wd τ k' := by unfold wd; rw [h6k 3 (by decide) (by decide)]
        have e6 : an t k' = an τ k' := by unfold an; rw [h6k 6 (by decide) (by decide)]
        unfold TyK
        rw [hwt, e2, e3, e6, h61, h6k 2 (by decide) (by decide), h6k 3 (by decide) (by decide), h6k 6 (by decide) (by decide), h6k 0 (by decide) (by decide), h6k 7 (by decide) (by decide)]
        exact ⟨⟨rfl, by omega⟩, hK2, hK3, hK4, fun _ => ha, hK6, fun z => absurd rfl z, hK8⟩
      · exact (hK k' hk').o (fun f => h6 k' f d)
    · obtain ⟨y1, y2, y3, y4, y5⟩ := hPt k' p' hk' hp'
      unfold TyP gs
      rw [e7, eo 8 (by decide) (by decide) (by decide), eo 9 (by decide) (by decide) (by decide), eo 10 (by decide) (by decide) (by decide)]
      refine ⟨?_, y2, y3, y4, y5⟩
      split
      · exact Or.inr (Or.inr rfl)
      · exact y1
    · obtain ⟨o1, o2, o3, o4, o5, o6⟩ := hO
      unfold IvO
      rw [eo 8 (by decide) (by decide) (by decide)]
      refine ⟨fun k' p' hk' hp' h8 hn => ?_, fun k' hk' hw1 => ?_, o3, fun k' hk' hw3 => ?_, o5, o6⟩
      · rw [e7]
        split
        · decide
        · rename_i z
          refine o1 k' p' hk' hp' h8 (fun y => ?_)
          by_cases d : k' = k
          · exact z ⟨d, by rw [← y.2, d, hpk]⟩
          · have := wt_o (fun f => h6 k' f d)
            exact hn (by rw [this.1, this.2.1]; exact y)
      · by_cases d : k' = k
        · rw [d, hwt] at hw1; omega
        · have := wt_o (fun f => h6 k' f d)
          rw [this.2.1]
          exact o2 k' hk' (by rw [← this.1]; exact hw1)
      · by_cases d : k' = k
        · rw [d, hwt] at hw3; omega
        · have := wt_o (fun f => h6 k' f d)
          rw [this.2.1]
          exact o4 k' hk' (by rw [← this.1]; exact hw3)
  · rw [if_neg (show ¬ ((τ, ls, qs).1.1 6 k 1 = 3 ∧ (τ, ls, qs).1.1 6 k 6 ≤ 0) from c)]
    exact ⟨⟨⟨hN2, hN6, eN⟩, hK, hPt⟩, hT.pp p, hO, hC⟩
