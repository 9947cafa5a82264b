/-! PURE: calls, new askings, deliveries keep the invariant -/
def cL (cp : Int32) (k p : Nat) : Nat → List Lt
  | 0 => []
  | n + 1 => cL cp k p n ++ (if ((cp >>> (nI n &&& 31)) &&& 1) = 1 then [(5, k, n, p, -1, 0, fun _ => 0)] else [])
theorem aCm_ls (cp : Int32) (k p : Nat) : ∀ (n : Nat) (s : St), (aCm cp k p n s).2.1 = s.2.1 ++ cL cp k p n
  | 0, s => by simp [aCm, cL]
  | n + 1, s => by
    have := aCm_ls cp k p n s
    unfold aCm aCm1 cL
    split
    · simp only [aSend, this, List.append_assoc]
      rw [lwd_n (by omega)]
    · simp [this]
theorem tid_5 (k to p : Nat) (a b : Int32) (w : Nat → Int64) : tid (5, k, to, p, a, b, w) = (k, to) := by simp [tid, lk, lf, lt]
theorem tid_6 (k to p : Nat) (a b : Int32) (w : Nat → Int64) : tid (6, k, to, p, a, b, w) = (to, k) := by simp [tid, lk, lf, lt]
theorem cL_mem (cp : Int32) (k p : Nat) : ∀ (n : Nat), n ≤ 32 → ∀ l, l ∈ cL cp k p n → ∃ to, to < n ∧ bt cp to = true ∧ l = (5, k, to, p, -1, 0, fun _ => 0)
  | 0, _, l, h => by simp [cL] at h
  | n + 1, hn, l, h => by
    unfold cL at h
    rcases List.mem_append.mp h with z | z
    · obtain ⟨to, h1, h2, h3⟩ := cL_mem cp k p n (by omega) l z
      exact ⟨to, by omega, h2, h3⟩
    · split at z
      · rename_i c
        rw [List.mem_singleton] at z
        exact ⟨n, by omega, (bit1 (by omega)).mp c, z⟩
      · simp at z
theorem cL_pw (cp : Int32) (k p : Nat) : ∀ (n : Nat), n ≤ 32 → (cL cp k p n).Pairwise (fun a b => tid a ≠ tid b)
  | 0, _ => List.Pairwise.nil
  | n + 1, hn => by
    unfold cL
    refine List.pairwise_append.mpr ⟨cL_pw cp k p n (by omega), ?_, fun a ha b hb => ?_⟩
    · split
      · exact List.pairwise_singleton _ _
      · exact List.Pairwise.nil
    · obtain ⟨to, h1, h2, h3⟩ := cL_mem cp k p n (by omega) a ha
      split at hb
      · rw [List.mem_singleton] at hb
        rw [h3, hb, tid_5, tid_5]
        intro z
        have := (Prod.mk.inj z).2
        omega
      · simp at hb
theorem cL_cnt (cp : Int32) (k p k' : Nat) : ∀ (n : Nat), (cL cp k p n).countP (isTok k') = if k' = k then cntb cp n else 0
  | 0 => by simp [cL, cntb]
  | n + 1 => by
    have ih := cL_cnt cp k p k' n
    unfold cL cntb
    rw [List.countP_append, ih]
    by_cases c0 : ((cp >>> (nI n &&& 31)) &&& 1) = 1
    · rw [if_pos c0, if_pos c0, List.countP_singleton]
      unfold isTok
      rw [tid_5]
      by_cases c : k' = k
      · subst c; simp [lk]
      · simp [c, Ne.symm c]
    · rw [if_neg c0, if_neg c0]
      simp
theorem IvT.c2 {N : Nat} {τ τ1 : Sg} {ls : List Lt} {qs : Qu} {pp : Nat} {es : List (Nat × Nat)} (h : IvT N τ ls qs pp es) (e1 : wt τ1 = wt τ) (e2 : pg τ1 = pg τ) : IvT N τ1 ls qs pp es := by
  unfold IvT LW QE at h ⊢
  rw [e1, e2]
  exact h
theorem Inv.c2 {N : Nat} {τ τ1 : Sg} {ls : List Lt} {qs : Qu} {pp : Nat} {es : List (Nat × Nat)} (h : Inv N (τ, ls, qs) pp es) (e : ∀ b, b ≠ 2 → τ1.1 b = τ.1 b) : Inv N (τ1, ls, qs) pp es := by
  obtain ⟨⟨⟨hN2, hN6, eN⟩, hK, hPt⟩, hT, hO, hC⟩ := h
  have e6 := e 6 (by decide)
  refine ⟨⟨⟨hN2, hN6, by show τ1.1 0 0 3 = nI N; rw [e 0 (by decide)]; exact eN⟩, fun k hk => (hK k hk).c e6, fun k p hk hp => (hPt k p hk hp).c (e 7 (by decide)) (e 8 (by decide)) (e 9 (by decide)) (e 10 (by decide))⟩, hT.c e6, ?_, hC.c e6⟩
  show IvO τ1 ls
  unfold IvO
  rw [wt_c e6, pg_c e6, e 7 (by decide), e 8 (by decide)]
  exact hO
theorem Inv.pp {N : Nat} {s : St} {pp : Nat} (h : Inv N s pp []) (p : Nat) : Inv N s p [] := ⟨h.1, h.2.1.pp p, h.2.2⟩
theorem I_call {N : Nat} {τ : Sg} {ls : List Lt} {qs : Qu} {pp k p : Nat} (hTy : Ty N τ) (hT : IvT N τ ls qs pp []) (hf : Fr k ls qs) (hkN : k < N) (hp : p < 8) (hpk : pg τ k = p) (hw3 : wt τ k ≠ 3) (h8 : τ.1 8 k p = 1) (h66 : τ.1 6 k 6 = 0) (h60 : τ.1 6 k 0 = 1) (hq : ∀ p', p' < 8 → p' ≠ p → qs k p' = [])
    (o1 : ∀ k' p', k' < 6 → p' < 8 → τ.1 8 k' p' = 1 → ¬ (k' = k ∧ p' = p) → ¬ (wt τ k' = 3 ∧ pg τ k' = p') → τ.1 7 k' p' ≠ 0)
    (o2 : ∀ k, k < 6 → wt τ k = 1 → τ.1 8 k (pg τ k) = 0)
    (o3 : ∀ k k' p, k < 6 → k' < 6 → p < 8 → τ.1 8 k p = 1 → τ.1 8 k' p = 1 → k = k')
    (o4 : ∀ k, k < 6 → wt τ k = 3 → τ.1 8 k (pg τ k) = 1)
    (o5 : ∀ l, l ∈ ls → lk l = 4 → ∀ k, k < 6 → τ.1 8 k (lp l) = 0)
    (o6 : ls.Pairwise (fun a b => lk a = 4 → lk b = 4 → lp a ≠ lp b))
    (hC : IvC τ ls) : Inv N (aCall (τ, ls, qs) k p N) p [] := by
  obtain ⟨⟨hN2, hN6, eN⟩, hK, hPt⟩ := hTy
  have hk : k < 6 := by omega
  obtain ⟨hK1, hK2, hK3, hK4, hK5, hK6, hK7, hK8⟩ := hK k hk
  have hself := (hPt k p hk hp).2.2.2.2
  have hcall : aCall (τ, ls, qs) k p N = (sI (sI (sI (aCm (τ.1 10 k p) k p N (τ, ls, qs)).1 10 k p 0) 6 k 1 3) 6 k 6 (nI (cntb (τ.1 10 k p) N)), (aCm (τ.1 10 k p) k p N (τ, ls, qs)).2.1, qs) := aCb_eq (τ.1 10 k p) k p τ ls qs h66 N
  rw [hcall, aCm_ls]
  have hcn := cntb_le (τ.1 10 k p) N
  generalize hcp : τ.1 10 k p = cp at hself hcn hcall ⊢
  have et : ∀ b, b ≠ 2 → (aCm cp k p N (τ, ls, qs)).1.1 b = τ.1 b := fun b hb => by
    funext k' f
    exact aCm_i cp k p N (τ, ls, qs) b k' f hb
  generalize (aCm cp k p N (τ, ls, qs)).1 = t0 at et ⊢
  have h6 : ∀ k' f, k' ≠ k → (sI (sI (sI t0 10 k p 0) 6 k 1 3) 6 k 6 (nI (cntb cp N))).1 6 k' f = τ.1 6 k' f := fun k' f hne => by
    rw [← et 6 (by decide)]; simp [sI, hne]
  have h6k : ∀ f, f ≠ 1 → f ≠ 6 → (sI (sI (sI t0 10 k p 0) 6 k 1 3) 6 k 6 (nI (cntb cp N))).1 6 k f = τ.1 6 k f := fun f h1 h2 => by
    rw [← et 6 (by decide)]; simp [sI, h1, h2]
  have h61 : (sI (sI (sI t0 10 k p 0) 6 k 1 3) 6 k 6 (nI (cntb cp N))).1 6 k 1 = 3 := by simp [sI]
  have h6a : (sI (sI (sI t0 10 k p 0) 6 k 1 3) 6 k 6 (nI (cntb cp N))).1 6 k 6 = nI (cntb cp N) := by simp [sI]
  have eo : ∀ b, b ≠ 2 → b ≠ 6 → b ≠ 10 → (sI (sI (sI t0 10 k p 0) 6 k 1 3) 6 k 6 (nI (cntb cp N))).1 b = τ.1 b := fun b h1 h2 h3 => by
    rw [sI_k h2, sI_k h2, sI_k h3, et b h1]
  have e10 : ∀ k' p', (sI (sI (sI t0 10 k p 0) 6 k 1 3) 6 k 6 (nI (cntb cp N))).1 10 k' p' = if k' = k ∧ p' = p then 0 else τ.1 10 k' p' := fun k' p' => by
    rw [← et 10 (by decide)]; simp [sI]
  generalize sI (sI (sI t0 10 k p 0) 6 k 1 3) 6 k 6 (nI (cntb cp N)) = t at h6 h6k h61 h6a eo e10 ⊢
  have hwt : wt t k = 3 := by unfold wt; rw [h61]; rfl
  have hpg : pg t k = p := by unfold pg; rw [h6k 2 (by decide) (by decide)]; exact hpk
  have han : an t k = cntb cp N := by unfold an; rw [h6a, i_n _ (by omega)]
  have hother : ∀ k', k' ≠ k → wt t k' = wt τ k' ∧ pg t k' = pg τ k' ∧ an t k' = an τ k' := fun k' hne => wt_o (fun f => h6 k' f hne)
  have hmem : ∀ l, l ∈ cL cp k p N → LW N t l ∧ 5 ≤ lk l := fun l hl => by
    obtain ⟨to, a1, a2, a3⟩ := cL_mem cp k p N (by omega) l hl
    have hne : k ≠ to := fun z => by rw [← z, hself] at a2; exact absurd a2 (by decide)
    rw [a3]
    refine ⟨?_, by show 5 ≤ 5; omega⟩
    unfold LW
    rw [tid_5]
    exact ⟨by show 1 ≤ 5 ∧ 5 ≤ 6; omega, hkN, a1, hp, hkN, a1, by rw [hwt]; rfl, hpg, fun _ => hne, fun z => absurd z (by show ¬ 5 ≤ 2; omega)⟩
  have hT1 : IvT N t ls qs p [] := (hT.pp p).hand hf h6 (fun p' hp' => by
    by_cases c : p' = p
    · exact Or.inr ⟨Or.inr hwt, by rw [hpg, c]⟩
    · exact Or.inl (hq p' hp' c))
  refine ⟨⟨⟨hN2, hN6, by show t.1 0 0 3 = nI N; rw [eo 0 (by decide) (by decide) (by decide)]; exact eN⟩, fun k' hk' => ?_, fun k' p' hk' hp' => ?_⟩, hT1.app hmem (cL_pw cp k p N (by omega)) (fun l hl l' hl' z => ?_), ?_, ?_⟩
  · by_cases d : k' = k
    · subst d
      have e3 : wd t k' = wd τ k' := by unfold wd; rw [h6k 3 (by decide) (by decide)]
      show TyK N t k'
      unfold TyK
      rw [hwt, hpg, e3, han, h61, h6a, h6k 2 (by decide) (by decide), h6k 3 (by decide) (by decide), h6k 0 (by decide) (by decide), h6k 7 (by decide) (by decide)]
      rw [hpk] at hK2
      exact ⟨⟨rfl, by omega⟩, hK2, hK3, ⟨rfl, by omega⟩, fun z => absurd rfl z, hK6, fun _ => ⟨h60, hkN⟩, hK8⟩
    · exact (hK k' hk').o (fun f => h6 k' f d)
  · obtain ⟨y1, y2, y3, y4, y5⟩ := hPt k' p' hk' hp'
    show TyP N t k' p'
    unfold TyP gs
    rw [e10, eo 7 (by decide) (by decide) (by decide), eo 8 (by decide) (by decide) (by decide), eo 9 (by decide) (by decide) (by decide)]
    refine ⟨y1, y2, y3, y4, ?_⟩
    split
    · exact b_0 _
    · exact y5
  · obtain ⟨to, a1, a2, a3⟩ := cL_mem cp k p N (by omega) l' hl'
    rw [a3, tid_5] at z
    exact hf.1 l hl (by rw [z])
  · show IvO t (ls ++ cL cp k p N)
    unfold IvO
    rw [eo 7 (by decide) (by decide) (by decide), eo 8 (by decide) (by decide) (by decide)]
    refine ⟨fun k' p' hk' hp' h8' hn => ?_, fun k' hk' hw1 => ?_, o3, fun k' hk' hw => ?_, fun l hl h4 => ?_, List.pairwise_append.mpr ⟨o6, ?_, fun a ha b hb _ hb4 => ?_⟩⟩
    · refine o1 k' p' hk' hp' h8' (fun z => ?_) (fun z => ?_)
      · rw [z.1, z.2] at hn
        exact hn ⟨hwt, hpg⟩
      · by_cases d : k' = k
        · rw [d] at z; exact hw3 z.1
        · exact hn (by rw [(hother k' d).1, (hother k' d).2.1]; exact z)
    · by_cases d : k' = k
      · rw [d, hwt] at hw1; omega
      · rw [(hother k' d).2.1]
        exact o2 k' hk' (by rw [← (hother k' d).1]; exact hw1)
    · by_cases d : k' = k
      · rw [d, hpg]; exact h8
      · rw [(hother k' d).2.1]
        exact o4 k' hk' (by rw [← (hother k' d).1]; exact hw)
    · rcases List.mem_append.mp hl with z | z
      · exact o5 l z h4
      · have := (hmem l z).2; omega
    · exact (cL_pw cp k p N (by omega)).imp_of_mem (fun {a b} ha _ _ h4 => by have := (hmem a ha).2; omega)
    · have := (hmem b hb).2; omega
  · show IvC t (ls ++ cL cp k p N)
    intro k' hk' hw
    rw [List.countP_append, cL_cnt]
    by_cases d : k' = k
    · subst d
      rw [if_pos rfl, han]
      have : ls.countP (isTok k') = 0 := List.countP_eq_zero.mpr (fun l hl z => by
        unfold isTok at z
        simp at z
        exact hf.1 l hl z.2)
      omega
    · rw [if_neg d, (hother k' d).2.2]
      have := hC k' hk' (by rw [← (hother k' d).1]; exact hw)
      omega
theorem qs_w {N : Nat} {τ : Sg} {ls : List Lt} {qs : Qu} {pp : Nat} {es : List (Nat × Nat)} (hT : IvT N τ ls qs pp es) {k : Nat} (hk : k < 6) (hw : wt τ k ≠ 2 ∧ wt τ k ≠ 3) : ∀ p, p < 8 → qs k p = [] := fun p hp => by
  rcases hT.2.2.1 k p hk hp with z | z
  · exact z
  · exfalso; have := z.1; omega
/-- the hand of a free node: what it waits for is not answers, before and after -/
theorem I_hand {N : Nat} {τ τ1 : Sg} {ls : List Lt} {qs : Qu} {pp k : Nat} (h : Inv N (τ, ls, qs) pp []) (hk : k < 6) (hf : Fr k ls qs) (hw : wt τ k ≠ 2 ∧ wt τ k ≠ 3) (h6 : ∀ k' f, k' ≠ k → τ1.1 6 k' f = τ.1 6 k' f) (eo : ∀ b, b ≠ 2 → b ≠ 6 → τ1.1 b = τ.1 b) (hK1 : TyK N τ1 k) (hw1 : wt τ1 k ≠ 3) (ho : wt τ1 k = 1 → τ.1 8 k (pg τ1 k) = 0) : Inv N (τ1, ls, qs) pp [] := by
  obtain ⟨⟨⟨hN2, hN6, eN⟩, hK, hPt⟩, hT, ⟨o1, o2, o3, o4, o5, o6⟩, hC⟩ := h
  simp only at eN hK hPt hT o1 o2 o3 o4 o5 o6 hC
  have hother : ∀ k', k' ≠ k → wt τ1 k' = wt τ k' ∧ pg τ1 k' = pg τ k' ∧ an τ1 k' = an τ k' := fun k' hne => wt_o (fun f => h6 k' f hne)
  refine ⟨⟨⟨hN2, hN6, by show τ1.1 0 0 3 = nI N; rw [eo 0 (by decide) (by decide)]; exact eN⟩, fun k' hk' => ?_, fun k' p' hk' hp' => (hPt k' p' hk' hp').c (eo 7 (by decide) (by decide)) (eo 8 (by decide) (by decide)) (eo 9 (by decide) (by decide)) (eo 10 (by decide) (by decide))⟩, hT.hand hf h6 (fun p hp => Or.inl (qs_w hT hk hw p hp)), ?_, cP_hand hC h6 (fun z => absurd z hw1)⟩
  · by_cases d : k' = k
    · subst d; exact hK1
    · exact (hK k' hk').o (fun f => h6 k' f d)
  · show IvO τ1 ls
    unfold IvO
    rw [eo 7 (by decide) (by decide), eo 8 (by decide) (by decide)]
    refine ⟨fun k' p' hk' hp' h8' hn => ?_, fun k' hk' hw1' => ?_, o3, fun k' hk' hw' => ?_, o5, o6⟩
    · refine o1 k' p' hk' hp' h8' (fun z => ?_)
      by_cases d : k' = k
      · rw [d] at z; exact hw.2 z.1
      · exact hn (by rw [(hother k' d).1, (hother k' d).2.1]; exact z)
    · by_cases d : k' = k
      · rw [d] at hw1' ⊢; exact ho hw1'
      · rw [(hother k' d).2.1]
        exact o2 k' hk' (by rw [← (hother k' d).1]; exact hw1')
    · by_cases d : k' = k
      · rw [d] at hw'; exact absurd hw' hw1
      · rw [(hother k' d).2.1]
        exact o4 k' hk' (by rw [← (hother k' d).1]; exact hw')
/-- access and guess of one who doesn't own -/
theorem I_pg {N : Nat} {τ τ1 : Sg} {ls : List Lt} {qs : Qu} {pp k p g : Nat} {es : List (Nat × Nat)} (h : Inv N (τ, ls, qs) pp es) (eo : ∀ b, b ≠ 2 → b ≠ 7 → b ≠ 9 → τ1.1 b = τ.1 b) (en : ∀ k' p', ¬ (k' = k ∧ p' = p) → τ1.1 7 k' p' = τ.1 7 k' p' ∧ τ1.1 9 k' p' = τ.1 9 k' p') (h7 : τ1.1 7 k p = 0 ∨ τ1.1 7 k p = 1 ∨ τ1.1 7 k p = 2) (h9 : τ1.1 9 k p = nI g) (hg : g < N) (h8 : τ.1 8 k p = 0) : Inv N (τ1, ls, qs) pp es := by
  obtain ⟨⟨⟨hN2, hN6, eN⟩, hK, hPt⟩, hT, ⟨o1, o2, o3, o4, o5, o6⟩, hC⟩ := h
  simp only at eN hK hPt hT o1 o2 o3 o4 o5 o6 hC
  have e6 := eo 6 (by decide) (by decide) (by decide)
  have e8 := eo 8 (by decide) (by decide) (by decide)
  refine ⟨⟨⟨hN2, hN6, by show τ1.1 0 0 3 = nI N; rw [eo 0 (by decide) (by decide) (by decide)]; exact eN⟩, fun k' hk' => (hK k' hk').c e6, fun k' p' hk' hp' => ?_⟩, hT.c e6, ?_, hC.c e6⟩
  · obtain ⟨y1, y2, y3, y4, y5⟩ := hPt k' p' hk' hp'
    show TyP N τ1 k' p'
    unfold TyP gs
    rw [e8, eo 10 (by decide) (by decide) (by decide)]
    by_cases c : k' = k ∧ p' = p
    · rw [c.1, c.2] at y2 y4 y5 ⊢
      exact ⟨h7, y2, by rw [h9, i_n g (by omega)]; exact ⟨rfl, hg⟩, y4, y5⟩
    · rw [(en k' p' c).1, (en k' p' c).2]
      exact ⟨y1, y2, y3, y4, y5⟩
  · show IvO τ1 ls
    unfold IvO
    rw [wt_c e6, pg_c e6, e8]
    refine ⟨fun k' p' hk' hp' h8' hn => ?_, o2, o3, o4, o5, o6⟩
    by_cases c : k' = k ∧ p' = p
    · rw [c.1, c.2, h8] at h8'; exact absurd h8' (by decide)
    · rw [(en k' p' c).1]
      exact o1 k' p' hk' hp' h8' hn
theorem Inv.rem {N : Nat} {τ : Sg} {A B : List Lt} {l : Lt} {qs : Qu} {pp : Nat} (h : Inv N (τ, A ++ l :: B, qs) pp []) (h4 : lk l ≤ 4) : Inv N (τ, A ++ B, qs) pp [] := by
  obtain ⟨hTy, hT, ⟨o1, o2, o3, o4, o5, o6⟩, hC⟩ := h
  simp only at hT o1 o2 o3 o4 o5 o6 hC
  refine ⟨hTy, hT.rem, ⟨o1, o2, o3, o4, fun l' hl' => o5 l' ((ab_sub A B l).subset hl'), o6.sublist (ab_sub A B l)⟩, fun k hk hw => ?_⟩
  have := hC k hk hw
  rw [List.countP_append, List.countP_cons, tok_no (by omega)] at this
  show (A ++ B).countP (isTok k) = an τ k
  rw [List.countP_append]
  simpa using this
/-- an asking flies off -/
theorem Inv.fly {N : Nat} {τ : Sg} {ls : List Lt} {qs : Qu} {p : Nat} {e : Nat × Nat} {es : List (Nat × Nat)} (h : Inv N (τ, ls, qs) p (e :: es)) {l : Lt} (hl : LW N τ l) (ht : tid l = (e.2, e.2)) (h3 : lk l ≤ 3) : Inv N (τ, ls ++ [l], qs) p es := by
  obtain ⟨hTy, hT, ⟨o1, o2, o3, o4, o5, o6⟩, hC⟩ := h
  simp only at hT o1 o2 o3 o4 o5 o6 hC
  refine ⟨hTy, hT.add hl ht, ⟨o1, o2, o3, o4, fun l' hl' h4 => ?_, List.pairwise_append.mpr ⟨o6, List.pairwise_singleton _ _, fun a _ b hb _ h4 => ?_⟩⟩, hC.app (by omega)⟩
  · rcases List.mem_append.mp hl' with z | z
    · exact o5 l' z h4
    · rw [List.mem_singleton] at z; rw [z] at h4; omega
  · rw [List.mem_singleton] at hb
    rw [hb] at h4; omega
