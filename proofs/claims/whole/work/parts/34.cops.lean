/-! PURE: the class's read, write, deliver on the abstract state -/
def inR (x : Int32) (n : Nat) : Prop := ∃ k, k < n ∧ x = nI k
theorem br {x y : Int32} {n : Nat} (hy : y = nI n) (hn : n < 2147483648) {P R : Prop} (h1 : inR x n → R) (h0 : ¬ inR x n → P) : (x < 0 → P) ∧ (¬ x < 0 → ((y ≤ x → P) ∧ (¬ y ≤ x → R))) := by
  subst hy
  refine ⟨fun h => h0 ?_, fun h => ⟨fun h2 => h0 ?_, fun h2 => h1 ?_⟩⟩
  · rintro ⟨k, hk, rfl⟩; exact nI_pos (by omega) h
  · rintro ⟨k, hk, rfl⟩; exact nI_ge hk hn h2
  · obtain ⟨j, hj, rfl⟩ := nI_of h
    refine ⟨j, ?_, rfl⟩
    by_cases c : j < n
    · exact c
    · exact absurd (nI_le (by omega) hj) h2
theorem br2 {x y : Int32} {n : Nat} (hy : y = nI n) (hn : n < 2147483648) {P R : Prop} (h1 : inR x n → R) (h0 : ¬ inR x n → P) : (x < 0 → P) ∧ (¬ x < 0 → ((x < y → R) ∧ (¬ x < y → P))) := by
  subst hy
  refine ⟨fun h => h0 ?_, fun h => ⟨fun h2 => h1 ?_, fun h2 => h0 ?_⟩⟩
  · rintro ⟨k, hk, rfl⟩; exact nI_pos (by omega) h
  · obtain ⟨j, hj, rfl⟩ := nI_of h
    refine ⟨j, ?_, rfl⟩
    by_cases c : j < n
    · exact c
    · rw [Int32.lt_iff_toInt_lt, nI_toInt hj, nI_toInt hn] at h2
      omega
  · rintro ⟨k, hk, rfl⟩; exact h2 (nI_lt hk hn)
theorem C_isNode {σ : Sg} {N : Nat} (eN : σ.1 0 0 3 = nI N) (hN : N ≤ 6) {x : Int32} {Q : Sg → Int32 → Prop} (h1 : inR x N → Q σ 1) (h0 : ¬ inR x N → Q σ 0) : wp_X4_isNode σ x Q := br eN (by omega) h1 h0
theorem C_isPage {σ : Sg} {x : Int32} {Q : Sg → Int32 → Prop} (h1 : inR x 8 → Q σ 1) (h0 : ¬ inR x 8 → Q σ 0) : wp_X4_isPage σ x Q := br (n := 8) rfl (by omega) h1 h0
theorem C_isWord {σ : Sg} {x : Int32} {Q : Sg → Int32 → Prop} (h1 : inR x 4 → Q σ 1) (h0 : ¬ inR x 4 → Q σ 0) : wp_X4_isWord σ x Q := br (n := 4) rfl (by omega) h1 h0
theorem C_has {σ : Sg} {n : Nat} (hn : n ≤ 32) (e : σ.1 3 0 1 = nI n) {x : Int32} {Q : Sg → Int32 → Prop} (h1 : inR x n → Q σ 1) (h0 : ¬ inR x n → Q σ 0) : wp_X2_has σ x Q := br e (by omega) h1 h0
theorem inR.vp {x : Int32} {n m : Nat} (h : inR x n) (hn : n ≤ m) (hm : m < 2147483648) : vp_in x m := by
  obtain ⟨k, hk, rfl⟩ := h
  exact vp_n (by omega) hm
def okA (N : Nat) (τ : Sg) (x1 x2 x3 : Int32) : Prop := inR x1 N ∧ inR x2 8 ∧ inR x3 4 ∧ τ.1 6 (ix x1) 1 = 0
theorem C_mayStart {σ : Sg} {N : Nat} (eN : σ.1 0 0 3 = nI N) (hN : N ≤ 6) {x1 x2 x3 : Int32} {Q : Sg → Int32 → Prop} (h1 : okA N σ x1 x2 x3 → Q σ 1) (h0 : ¬ okA N σ x1 x2 x3 → Q σ 0) : wp_X4_mayStart σ x1 x2 x3 Q := by
  unfold wp_X4_mayStart
  refine C_isNode eN hN (fun a1 => ⟨fun c => absurd c (by decide), fun _ => ?_⟩) (fun a1 => ⟨fun _ => h0 (fun z => a1 z.1), fun c => absurd rfl c⟩)
  refine C_isPage (fun a2 => ⟨fun c => absurd c (by decide), fun _ => ?_⟩) (fun a2 => ⟨fun _ => h0 (fun z => a2 z.2.1), fun c => absurd rfl c⟩)
  refine C_isWord (fun a3 => ⟨fun c => absurd c (by decide), fun _ => ⟨a1.vp hN (by omega), ?_⟩⟩) (fun a3 => ⟨fun _ => h0 (fun z => a3 z.2.2.1), fun c => absurd rfl c⟩)
  exact ⟨fun c => h1 ⟨a1, a2, a3, c⟩, fun c => h0 (fun z => c z.2.2.2)⟩
theorem C_done {σ : Sg} {k : Nat} {Q : Sg → Int32 → Prop} (h1 : σ.1 6 k 1 = 0 → Q (sI σ 2 0 7 (σ.1 2 0 7 + 1)) 1) (h0 : σ.1 6 k 1 ≠ 0 → Q σ 0) : wp_X4_doneAtOnce σ k Q := by
  unfold wp_X4_doneAtOnce
  rw [ixl7]
  exact ⟨fun c σ2 e2 => by rw [e2]; exact h1 c, fun c => h0 c⟩
theorem TyH.take {τ : Sg} {k p w : Nat} {x3 : Int32} {x4 : Int64} (hp : p < 8) (hw : w < 4) : TyH (aTake τ k (nI p) (nI w) x3 x4) k p w := ⟨hp, aTake_2, hw, aTake_3⟩
theorem Inv.len {N : Nat} {s : St} {pp : Nat} {es : List (Nat × Nat)} (h : Inv N s pp es) : s.2.1.length ≤ 30 := by
  have := h.2.1.len30 h.1.1.2.1 (k := 0) (p := 0) (by omega) (by omega)
  omega
theorem wt0 {N : Nat} {s : St} {pp : Nat} {es : List (Nat × Nat)} (h : Inv N s pp es) {k : Nat} (hk : k < 6) : s.1.1 6 k 1 = 0 ↔ wt s.1 k = 0 := by
  have := (h.1.2.1 k hk).1
  rw [this.1]
  exact ⟨fun z => nI_inj (b := 0) (by omega) (by omega) z, fun z => by rw [z]; rfl⟩
theorem C_read {μ σ τ : Sg} {ls : List Lt} {qs : Qu} {N pp : Nat} (h : RC false μ τ ls qs σ) (hi : Inv N (τ, ls, qs) pp []) {x1 x2 x3 : Int32} (Q : Sg → Int32 → Prop) (hN : ¬ okA N τ x1 x2 x3 → Q σ (-1))
    (h0 : ∀ k p w, k < N → p < 8 → w < 4 → x1 = nI k → x2 = nI p → x3 = nI w → wt τ k = 0 → τ.1 7 k p = 0 → ∀ σ1, RCs false μ (aSend (sI (aTake τ k (nI p) (nI w) 0 0) 6 k 1 (nI 1), ls, qs) 1 k (gs τ k p) p (nI k) 0) σ1 → Q σ1 0)
    (h1 : ∀ k p w, k < N → p < 8 → w < 4 → x1 = nI k → x2 = nI p → x3 = nI w → wt τ k = 0 → τ.1 7 k p ≠ 0 → ∀ σ1, RCs false μ (aCnt (aFin (aTake τ k (nI p) (nI w) 0 0) k) 7, ls, qs) σ1 → Q σ1 1) : wp_X4_read σ x1 x2 x3 Q := by
  obtain ⟨hN2, hN6, eN⟩ := hi.1.1
  have ok : okA N σ x1 x2 x3 ↔ okA N τ x1 x2 x3 := by unfold okA; rw [h.2.1.a6]
  unfold wp_X4_read
  refine C_mayStart (by rw [h.2.1.a0]; exact eN) hN6 (fun a => ⟨fun c => absurd c (by decide), fun _ => ?_⟩) (fun a => ⟨fun _ => hN (fun z => a (ok.mpr z)), fun c => absurd rfl c⟩)
  obtain ⟨⟨k, hk, rfl⟩, ⟨p, hp, rfl⟩, ⟨w, hw, rfl⟩, hw0⟩ := ok.mp a
  rw [i_n k (by omega)] at hw0
  rw [i_n k (by omega), i_n p (by omega)]
  have hwt := (wt0 hi (by omega)).mp hw0
  have hg := ((hi.1.2.2 k p (by omega) hp).2.2.1)
  refine ⟨vp_n (by omega) (by omega), C_take h (Or.inl rfl) _ (fun σ6 h6 => ⟨vp_n (by omega) (by omega), ?_⟩)⟩
  have e7 : σ6.1 7 k p = τ.1 7 k p := by rw [h6.2.1.a7, aTake_k (by decide)]
  rw [e7]
  refine ⟨fun c => ?_, fun c => ?_⟩
  · refine C_ask h6 hi.len (kd := 1) (g := gs τ k p) (by omega) (TyH.take hp hw) (by rw [aTake_k (by decide)]; exact hg.1) (Or.inl rfl) _ (fun σ1 hr => ?_)
    refine C_done (fun z => ?_) (fun _ => h0 k p w hk hp hw rfl rfl rfl hwt c σ1 hr)
    rw [hr.2.1.a6] at z
    exact absurd z (by simp [aSend, aCnt, sI])
  · refine C_finish h6 (TyH.take hp hw) _ (fun σ1 hr => ?_)
    refine C_done (fun z => h1 k p w hk hp hw rfl rfl rfl hwt c _ (hr.cnt 7)) (fun z => ?_)
    rw [hr.2.1.a6] at z
    exact absurd aFin_w z
theorem aCall_6 {s : St} {k p N : Nat} (h : s.1.1 6 k 6 = 0) : (aCall s k p N).1.1 6 k 1 = 3 ∧ (aCall s k p N).1.1 6 k 6 = nI (cntb (s.1.1 10 k p) N) ∧ (aCall s k p N).2.2 = s.2.2 := by
  have hcall : aCall s k p N = (sI (sI (sI (aCm (s.1.1 10 k p) k p N s).1 10 k p 0) 6 k 1 3) 6 k 6 (nI (cntb (s.1.1 10 k p) N)), (aCm (s.1.1 10 k p) k p N s).2.1, s.2.2) := aCb_eq (s.1.1 10 k p) k p s.1 s.2.1 s.2.2 h N
  rw [hcall]
  simp [sI]
theorem aFia_0 {s : St} {k p N : Nat} (h : s.1.1 6 k 6 = 0) (hc : cntb (s.1.1 10 k p) N = 0) : aFia (aCall s k p N) k p = aGo (aFin (sI (aCall s k p N).1 7 k p 2) k, (aCall s k p N).2.1, s.2.2) k p := by
  obtain ⟨h1, h2, h3⟩ := aCall_6 (p := p) (N := N) h
  unfold aFia
  rw [if_pos ⟨h1, by rw [h2, hc]; decide⟩, h3]
theorem aFia_n {s : St} {k p N : Nat} (h : s.1.1 6 k 6 = 0) (hN : N ≤ 6) (hc : cntb (s.1.1 10 k p) N ≠ 0) : aFia (aCall s k p N) k p = aCall s k p N := by
  obtain ⟨h1, h2, h3⟩ := aCall_6 (p := p) (N := N) h
  unfold aFia
  have := cntb_le (s.1.1 10 k p) N
  rw [if_neg (fun z => by
    have h4 := z.2
    rw [h2] at h4
    exact absurd h4 (nI_ge (a := 0) (by omega) (by omega)))]
theorem aGo_nil {s : St} {k p : Nat} (h : s.2.2 k p = []) : aGo s k p = s := by
  unfold aGo aGoL
  rw [h]
  show (s.1, s.2.1, uQ s.2.2 k p []) = s
  have : uQ s.2.2 k p [] = s.2.2 := by
    funext k' p'
    unfold uQ
    by_cases c : k' = k ∧ p' = p
    · rw [if_pos c, c.1, c.2, h]
    · rw [if_neg c]
  rw [this]
theorem C_fiaI {bq : Bool} {μ σ : Sg} {s : St} {N pp k p : Nat} (h : RCs bq μ s σ) (hi : Inv N s pp []) (hk : k < N) (hp : p < 8) (hpg : pg s.1 k = p) (Q : Sg → Prop) (hQ : ∀ σ1, RCs false μ (aFia s k p) σ1 → Q σ1) : wp_X4_finishIfAllAnswered σ k Q := by
  have hN6 := hi.1.1.2.1
  have hK := hi.1.2.1 k (by omega)
  have hg := ((hi.1.2.2 k p (by omega) hp).2.2.1)
  have hl := hi.2.1.len30 hN6 (k := k) (p := p) (by omega) hp
  refine C_fia h (by omega) (w := wd s.1 k) ⟨hp, by rw [← hpg]; exact hK.2.1.1, hK.2.2.1.2, hK.2.2.1.1⟩ (by omega) (g := gs s.1 k p) (by omega) hg.1 (fun e he => ?_) Q hQ
  have := hi.2.1.2.2.2.1 k p e (by omega) hp he
  exact ⟨this.1, by have := this.2.1; omega⟩
theorem aCall_pg {s : St} {k p N : Nat} : pg (aCall s k p N).1 k = pg s.1 k := by
  unfold pg aCall
  rw [aCb_i _ _ _ _ _ _ _ _ (by decide) (by simp)]
  simp [sI]
theorem aTake_pg {τ : Sg} {k p : Nat} {x2 x3 : Int32} {x4 : Int64} (hp : p < 8) : pg (aTake τ k (nI p) x2 x3 x4) k = p := by
  unfold pg
  rw [aTake_2, i_n p (by omega)]
theorem C_write {μ σ τ : Sg} {ls : List Lt} {qs : Qu} {N pp : Nat} (h : RC false μ τ ls qs σ) (hi : Inv N (τ, ls, qs) pp []) {x1 x2 x3 : Int32} {v : Int64} (Q : Sg → Int32 → Prop) (hN : ¬ okA N τ x1 x2 x3 → Q σ (-1))
    (h2 : ∀ k p w, k < N → p < 8 → w < 4 → x1 = nI k → x2 = nI p → x3 = nI w → wt τ k = 0 → τ.1 7 k p = 2 → ∀ σ1, RCs false μ (aCnt (aFin (aTake τ k (nI p) (nI w) 1 v) k) 7, ls, qs) σ1 → Q σ1 1)
    (h0 : ∀ k p w, k < N → p < 8 → w < 4 → x1 = nI k → x2 = nI p → x3 = nI w → wt τ k = 0 → τ.1 7 k p ≠ 2 → τ.1 8 k p = 0 → ∀ σ1, RCs false μ (aSend (sI (aTake τ k (nI p) (nI w) 1 v) 6 k 1 (nI 2), ls, qs) 2 k (gs τ k p) p (nI k) 0) σ1 → Q σ1 0)
    (hc1 : ∀ k p w, k < N → p < 8 → w < 4 → x1 = nI k → x2 = nI p → x3 = nI w → wt τ k = 0 → τ.1 7 k p ≠ 2 → τ.1 8 k p = 1 → cntb (τ.1 10 k p) N = 0 → ∀ σ1, RCs false μ (aCnt (aFin (sI (aCall (aTake τ k (nI p) (nI w) 1 v, ls, qs) k p N).1 7 k p 2) k) 7, (aCall (aTake τ k (nI p) (nI w) 1 v, ls, qs) k p N).2.1, qs) σ1 → Q σ1 1)
    (hc0 : ∀ k p w, k < N → p < 8 → w < 4 → x1 = nI k → x2 = nI p → x3 = nI w → wt τ k = 0 → τ.1 7 k p ≠ 2 → τ.1 8 k p = 1 → cntb (τ.1 10 k p) N ≠ 0 → ∀ σ1, RCs false μ (aCall (aTake τ k (nI p) (nI w) 1 v, ls, qs) k p N) σ1 → Q σ1 0) : wp_X4_write σ x1 x2 x3 v Q := by
  obtain ⟨hN2, hN6, eN⟩ := hi.1.1
  have ok : okA N σ x1 x2 x3 ↔ okA N τ x1 x2 x3 := by unfold okA; rw [h.2.1.a6]
  unfold wp_X4_write
  refine C_mayStart (by rw [h.2.1.a0]; exact eN) hN6 (fun a => ⟨fun c => absurd c (by decide), fun _ => ?_⟩) (fun a => ⟨fun _ => hN (fun z => a (ok.mpr z)), fun c => absurd rfl c⟩)
  obtain ⟨⟨k, hk, rfl⟩, ⟨p, hp, rfl⟩, ⟨w, hw, rfl⟩, hw0⟩ := ok.mp a
  rw [i_n k (by omega)] at hw0
  rw [i_n k (by omega), i_n p (by omega)]
  have hwt := (wt0 hi (by omega)).mp hw0
  have hP := (hi.1.2.2 k p (by omega) hp)
  have hg := hP.2.2.1
  refine ⟨vp_n (by omega) (by omega), C_take h (Or.inr rfl) _ (fun σ6 h6 => ⟨vp_n (by omega) (by omega), ?_⟩)⟩
  have e7 : σ6.1 7 k p = τ.1 7 k p := by rw [h6.2.1.a7, aTake_k (by decide)]
  have e8 : σ6.1 8 k p = τ.1 8 k p := by rw [h6.2.1.a8, aTake_k (by decide)]
  rw [e7, e8]
  refine ⟨fun c => ?_, fun c => ⟨vp_n (by omega) (by omega), fun c8 => ?_, fun c8 => ?_⟩⟩
  · refine C_finish h6 (TyH.take hp hw) _ (fun σ1 hr => ?_)
    refine C_done (fun z => h2 k p w hk hp hw rfl rfl rfl hwt c _ (hr.cnt 7)) (fun z => ?_)
    rw [hr.2.1.a6] at z
    exact absurd aFin_w z
  · refine C_ask h6 hi.len (kd := 2) (g := gs τ k p) (by omega) (TyH.take hp hw) (by rw [aTake_k (by decide)]; exact hg.1) (Or.inr rfl) _ (fun σ1 hr => ?_)
    refine C_done (fun z => ?_) (fun _ => h0 k p w hk hp hw rfl rfl rfl hwt c c8 σ1 hr)
    rw [hr.2.1.a6] at z
    exact absurd z (by simp [aSend, aCnt, sI])
  · have c8' : τ.1 8 k p = 1 := hP.2.1.resolve_left c8
    have hI := I_cl (x3 := 1) (x4 := v) hi hk hp hw hwt c8'
    have hl := hi.2.1.len25 hN6 (k := k) (by omega) (Fr.w0 hi.2.1 hwt)
    have e10 : (aTake τ k (nI p) (nI w) 1 v).1 10 k p = τ.1 10 k p := by rw [aTake_k (by decide)]
    refine C_callBack (s := (aTake τ k (nI p) (nI w) 1 v, ls, qs)) (N := N) h6 (by omega) (TyH.take hp hw) hN6 (by show (aTake τ k (nI p) (nI w) 1 v).1 0 0 3 = nI N; rw [aTake_k (by decide)]; exact eN) (by simp only at hl; show ls.length + N ≤ 31; omega) _ (fun σ25 h25 => ?_)
    refine C_fiaI h25 hI hk hp (by rw [aCall_pg]; exact aTake_pg hp) _ (fun σ1 hr => ?_)
    have h6a := aCall_6 (s := (aTake τ k (nI p) (nI w) 1 v, ls, qs)) (k := k) (p := p) (N := N) aTake_66
    have hq : qs k p = [] := qs_w hi.2.1 (by omega) (by rw [hwt]; omega) p hp
    by_cases hc : cntb (τ.1 10 k p) N = 0
    · rw [aFia_0 aTake_66 (by show cntb ((aTake τ k (nI p) (nI w) 1 v).1 10 k p) N = 0; rw [e10]; exact hc), aGo_nil hq] at hr
      refine C_done (fun z => hc1 k p w hk hp hw rfl rfl rfl hwt c c8' hc _ (hr.cnt 7)) (fun z => ?_)
      rw [hr.2.1.a6] at z
      exact absurd aFin_w z
    · rw [aFia_n aTake_66 hN6 (by show cntb ((aTake τ k (nI p) (nI w) 1 v).1 10 k p) N ≠ 0; rw [e10]; exact hc)] at hr
      refine C_done (fun z => ?_) (fun _ => hc0 k p w hk hp hw rfl rfl rfl hwt c c8' hc _ hr)
      rw [hr.2.1.a6, h6a.1] at z
      exact absurd z (by decide)
def aDel (N : Nat) (s : St) (l : Lt) : St :=
  if lk l ≤ 2 then aAsk s (lt l) (lk l) (lp l) (ix (ln l))
  else if lk l = 3 then (aGr s.1 (lt l) (lp l) (lf l) (lw l), s.2.1, s.2.2)
  else if lk l = 4 then aFia (aCall (aGw s.1 (lt l) (lp l) (lc l) (lw l), s.2.1, s.2.2) (lt l) (lp l) N) (lt l) (lp l)
  else if lk l = 5 then aSend (aCd s.1 (lt l) (lp l) (lf l), s.2.1, s.2.2) 6 (lt l) (lf l) (lp l) (-1) 0
  else aFia (sI s.1 6 (lt l) 6 (s.1.1 6 (lt l) 6 - 1), s.2.1, s.2.2) (lt l) (lp l)
theorem aGw_6 {τ : Sg} {k p : Nat} {c : Int32} {w : Nat → Int64} : (aGw τ k p c w).1 6 = τ.1 6 := by unfold aGw; rw [sI_6 (by decide), sI_6 (by decide), sI_6 (by decide)]; rfl
theorem aGw_0 {τ : Sg} {k p : Nat} {c : Int32} {w : Nat → Int64} : (aGw τ k p c w).1 0 = τ.1 0 := by unfold aGw; rw [sI_k (by decide), sI_k (by decide), sI_k (by decide)]; rfl
/-- what a letter in flight says -/
theorem Inv.lw {N : Nat} {τ : Sg} {ls : List Lt} {qs : Qu} {pp : Nat} {es : List (Nat × Nat)} (hi : Inv N (τ, ls, qs) pp es) {i : Nat} {l : Lt} (hl : ls[i]? = some l) : LW N τ l := hi.2.1.1 l (List.mem_of_getElem? hl)
theorem I_del {N : Nat} {τ : Sg} {ls : List Lt} {qs : Qu} {pp i : Nat} {l : Lt} (h : Inv N (τ, ls, qs) pp []) (hl : ls[i]? = some l) : Inv N (aDel N (τ, ls.eraseIdx i, qs) l) (lp l) [] := by
  have hL := h.lw hl
  obtain ⟨A, B, e1, e2⟩ := er_split ls i l hl
  rw [e1] at h
  rw [e2]
  obtain ⟨l1, l2, l3, l4, l5, l6, l7, l8, l9, l10⟩ := hL
  unfold aDel
  by_cases c2 : lk l ≤ 2
  · rw [if_pos c2]; exact (I_d12 h c2).2
  rw [if_neg c2]
  by_cases c3 : lk l = 3
  · rw [if_pos c3]; exact (I_d3 h c3).pp _
  rw [if_neg c3]
  by_cases c4 : lk l = 4
  · rw [if_pos c4]
    refine I_fia (I_d4 h c4) l3 l4 ?_
    rw [aCall_pg]
    show pg (aGw τ (lt l) (lp l) (lc l) (lw l)) (lt l) = lp l
    rw [pg_c aGw_6]
    rw [tid_34' (Or.inr c4)] at l8
    exact l8
  rw [if_neg c4]
  by_cases c5 : lk l = 5
  · rw [if_pos c5]; exact (I_d5 h c5).pp _
  rw [if_neg c5]
  refine I_fia (I_d6 h (by omega)).2.2 l3 l4 ?_
  have ht : tid l = (lt l, lf l) := by unfold tid; rw [if_neg (by omega), if_neg (by omega), if_pos (by omega)]
  rw [ht] at l8
  rw [← l8]
  unfold pg
  simp [sI]
theorem C_deliver {μ σ τ : Sg} {ls : List Lt} {qs : Qu} {N pp : Nat} (h : RC false μ τ ls qs σ) (hi : Inv N (τ, ls, qs) pp []) {x1 : Int32} (Q : Sg → Int32 → Prop) (hN : ¬ inR x1 ls.length → Q σ (-1))
    (hQ : ∀ i l, x1 = nI i → ls[i]? = some l → ∀ ν σ1, EqM false μ σ1 → RCs false ν (aDel N (τ, ls.eraseIdx i, qs) l) σ1 → Q σ1 (nI (lk l))) : wp_X4_deliver σ x1 Q := by
  obtain ⟨hN2, hN6, eN⟩ := hi.1.1
  unfold wp_X4_deliver
  refine C_has h.2.2.2.2.1.1 h.2.2.2.2.1.2.1 (fun a => ⟨fun c => absurd c (by decide), fun _ => ?_⟩) (fun a => ⟨fun _ => hN a, fun c => absurd rfl c⟩)
  obtain ⟨i, hil, rfl⟩ := a
  have hl : ls[i]? = some ls[i] := List.getElem?_eq_getElem hil
  generalize ls[i] = l at hl
  refine C_takeOut h hl _ (fun σ5 x h5 hE h31 hV => ?_)
  have hQ' := hQ i l rfl hl σ5
  have hlw := hi.lw hl
  obtain ⟨A, B, e1, e2⟩ := er_split ls i l hl
  rw [e1] at hi
  rw [e2] at h5 hQ'
  obtain ⟨l1, l2, l3, l4, l5, l6, l7, l8, l9, l10⟩ := id hlw
  obtain ⟨⟨v0, v1, v2, v3, v4, v5⟩, v6⟩ := id hV
  have hlen : (A ++ B).length ≤ 29 := by
    have := hi.len
    simp at this ⊢
    omega
  have hkeep : ∀ {s' : St} {σ1 : Sg}, RCs false σ5 s' σ1 → σ1.1 15 x 0 = nI (lk l) ∧ EqM false μ σ1 := fun {s' σ1} hr => by
    refine ⟨?_, hE.trans hr.1⟩
    have := hr.2.2.2.1.1.2
    rw [h31] at this
    rw [this, v0]
  have hans : ∀ {s' : St} {σ1 : Sg}, RCs false σ5 s' σ1 → (∀ σ1, EqM false μ σ1 → RCs false σ5 s' σ1 → Q σ1 (nI (lk l))) → Q σ1 (σ1.1 15 x 0) := fun {s' σ1} hr hq => by
    rw [(hkeep hr).1]
    exact hq σ1 (hkeep hr).2 hr
  rw [v0, v1, v2, v3, v4, i_n (lt l) (by omega)]
  refine ⟨vp_n (by omega) (by omega), ?_⟩
  unfold aDel at hQ'
  have nk : ∀ c : Nat, c ≤ 6 → (nI (lk l) = nI c ↔ lk l = c) := fun c hc => nI_eq (by omega) (by omega)
  have hask : lk l ≤ 2 → wp_X4_askingComes σ5 (lt l) (nI (lk l)) (nI (lp l)) (ln l) (fun σ10 => Q σ10 (σ10.1 15 x 0)) := fun c2 => by
    rw [if_pos c2] at hQ'
    have hd := (I_d12 hi c2).1
    have hg := ((hd.1.2.2 (lt l) (lp l) (by omega) l4).2.2.1)
    rw [l10 c2]
    exact C_asking (s := (τ, A ++ B, qs)) h5 (by show (A ++ B).length ≤ 30; omega) (by omega) l4 (by omega) (g := gs τ (lt l) (lp l)) (by have := hg.2; simp only at this; omega) hg.1 (hd.2.1.q5 hN6 (by omega) l4) _ (fun σ1 hr => hans hr hQ')
  refine ⟨fun c => hask (by rw [(nk 1 (by omega)).mp c]; omega), fun c1 => ⟨fun c => hask (by rw [(nk 2 (by omega)).mp c]; omega), fun c2 => ?_⟩⟩
  have n1 : lk l ≠ 1 := fun z => c1 ((nk 1 (by omega)).mpr z)
  have n2 : lk l ≠ 2 := fun z => c2 ((nk 2 (by omega)).mpr z)
  rw [if_neg (by omega)] at hQ'
  have hK := hi.1.2.1 (lt l) (by omega)
  refine ⟨fun c => ?_, fun c3 => ?_⟩
  · have c := (nk 3 (by omega)).mp c
    rw [if_pos c] at hQ'
    exact C_givenToRead h5 hV c l4 (p := pg τ (lt l)) (w := wd τ (lt l)) ⟨hK.2.1.2, hK.2.1.1, hK.2.2.1.2, hK.2.2.1.1⟩ _ (fun σ1 hr => hans (s' := (aGr τ (lt l) (lp l) (lf l) (lw l), A ++ B, qs)) hr hQ')
  have n3 : lk l ≠ 3 := fun z => c3 ((nk 3 (by omega)).mpr z)
  rw [if_neg n3] at hQ'
  refine ⟨fun c => ?_, fun c4 => ?_⟩
  · have c := (nk 4 (by omega)).mp c
    rw [if_pos c] at hQ'
    have ht := tid_34' (Or.inr c)
    have hpg : pg τ (lt l) = lp l := by rw [ht] at l8; exact l8
    have hf := Fr.rem hi.2.1 (l := l) (by omega)
    rw [ht] at hf
    have h25 := hi.2.1.rem.len25 hN6 (k := lt l) (by omega) hf
    refine C_givenToWrite h5 (by omega) hV c (w := wd τ (lt l)) ⟨l4, by rw [← hpg]; exact hK.2.1.1, hK.2.2.1.2, hK.2.2.1.1⟩ hN6 eN (by omega) _ (fun σ22 h22 => ?_)
    exact C_fiaI h22 (I_d4 hi c) l3 l4 (by rw [aCall_pg]; show pg (aGw τ (lt l) (lp l) (lc l) (lw l)) (lt l) = lp l; rw [pg_c aGw_6]; exact hpg) _ (fun σ1 hr => hans hr hQ')
  have n4 : lk l ≠ 4 := fun z => c4 ((nk 4 (by omega)).mpr z)
  rw [if_neg n4] at hQ'
  refine ⟨fun c => ?_, fun c5 => ?_⟩
  · have c := (nk 5 (by omega)).mp c
    rw [if_pos c] at hQ'
    exact C_calledBack h5 (by omega) l4 (by omega) _ (fun σ1 hr => hans hr hQ')
  have n5 : lk l ≠ 5 := fun z => c5 ((nk 5 (by omega)).mpr z)
  rw [if_neg n5] at hQ'
  have h6 := I_d6 hi (by omega)
  have ht : tid l = (lt l, lf l) := by unfold tid; rw [if_neg (by omega), if_neg (by omega), if_pos (by omega)]
  have hpg : pg τ (lt l) = lp l := by rw [ht] at l8; exact l8
  intro σ32 e32
  rw [h5.2.1.a6] at e32
  have h32 : RC false σ5 (sI τ 6 (lt l) 6 (τ.1 6 (lt l) 6 - 1)) (A ++ B) qs σ32 := by rw [e32]; exact h5.i (skN (by decide)) _ _ _
  refine C_fiaI (s := (sI τ 6 (lt l) 6 (τ.1 6 (lt l) 6 - 1), A ++ B, qs)) h32 h6.2.2 l3 l4 ?_ _ (fun σ1 hr => hans hr hQ')
  rw [← hpg]
  unfold pg
  simp [sI]
