/-! PURE: the reference's read, write, deliver on the abstract state -/
theorem M_isNode {σ : Sg} {N : Nat} (eN : σ.1 20 0 0 = nI N) (hN : N ≤ 6) {x : Int32} {Q : Sg → Int32 → Prop} (h1 : inR x N → Q σ 1) (h0 : ¬ inR x N → Q σ 0) : wp_X5_isNode σ x Q := br eN (by omega) h1 h0
theorem M_isPage {σ : Sg} {x : Int32} {Q : Sg → Int32 → Prop} (h1 : inR x 8 → Q σ 1) (h0 : ¬ inR x 8 → Q σ 0) : wp_X5_isPage σ x Q := br (n := 8) rfl (by omega) h1 h0
theorem RM.n {bm : Bool} {κ τ σ : Sg} {ls : List Lt} {qs : Qu} (h : RM bm κ τ ls qs σ) {N : Nat} (eN : τ.1 0 0 3 = nI N) : σ.1 20 0 0 = nI N := by rw [h.2.2.2.2.1.1]; exact eN
/-- one that is refused -/
theorem M_askN {bm : Bool} {κ τ σ : Sg} {ls : List Lt} {qs : Qu} {N pp : Nat} (h : RM bm κ τ ls qs σ) (hi : Inv N (τ, ls, qs) pp []) {x1 x2 x3 x4 : Int32} {x5 : Int64} (hn : ¬ okA N τ x1 x2 x3) (Q : Sg → Int32 → Prop) (hQ : Q σ (-1)) : wp_X5_ask σ x1 x2 x3 x4 x5 Q := by
  obtain ⟨hN2, hN6, eN⟩ := hi.1.1
  unfold wp_X5_ask
  refine M_isNode (h.n eN) hN6 (fun a1 => ⟨fun c => absurd c (by decide), fun _ => ?_⟩) (fun a1 => ⟨fun _ => hQ, fun c => absurd rfl c⟩)
  refine M_isPage (fun a2 => ⟨fun c => absurd c (by decide), fun _ => ?_⟩) (fun a2 => ⟨fun _ => hQ, fun c => absurd rfl c⟩)
  refine br (n := 4) rfl (by omega) (fun a3 => ⟨a1.vp hN6 (by omega), ?_⟩) (fun a3 => hQ)
  refine ⟨fun c => ?_, fun c => hQ⟩
  exfalso
  obtain ⟨k, hk, rfl⟩ := id a1
  refine hn ⟨a1, a2, a3, ?_⟩
  rw [i_n k (by omega)] at c ⊢
  rw [← (h.2.2.2.1 k (by omega)).1.1]
  exact c
theorem M_askG {bm : Bool} {κ τ σ : Sg} {ls : List Lt} {qs : Qu} {N pp : Nat} (h : RM bm κ τ ls qs σ) (hi : Inv N (τ, ls, qs) pp []) {k p w : Nat} {x4 : Int32} {x5 : Int64} (hk : k < N) (hp : p < 8) (hw : w < 4) (hwt : wt τ k = 0) (hx : x4 = 0 ∨ x4 = 1) (Q : Sg → Int32 → Prop)
    (r0 : x4 = 0 → τ.1 7 k p = 0 → ∀ σ1, RMs bm κ (aSend (sI (aTake τ k (nI p) (nI w) x4 x5) 6 k 1 (nI 1), ls, qs) 1 k (gs τ k p) p (nI k) 0) σ1 → Q σ1 0)
    (r1 : (x4 = 0 ∧ τ.1 7 k p ≠ 0) ∨ (x4 = 1 ∧ τ.1 7 k p = 2) → ∀ σ1, RMs bm κ (aCnt (aFin (aTake τ k (nI p) (nI w) x4 x5) k) 7, ls, qs) σ1 → Q σ1 1)
    (w0 : x4 = 1 → τ.1 7 k p ≠ 2 → τ.1 8 k p = 0 → ∀ σ1, RMs bm κ (aSend (sI (aTake τ k (nI p) (nI w) x4 x5) 6 k 1 (nI 2), ls, qs) 2 k (gs τ k p) p (nI k) 0) σ1 → Q σ1 0)
    (c1 : x4 = 1 → τ.1 7 k p ≠ 2 → τ.1 8 k p = 1 → cntb (τ.1 10 k p) N = 0 → ∀ σ1, RMs bm κ (aCnt (aFin (sI (aCall (aTake τ k (nI p) (nI w) x4 x5, ls, qs) k p N).1 7 k p 2) k) 7, (aCall (aTake τ k (nI p) (nI w) x4 x5, ls, qs) k p N).2.1, qs) σ1 → Q σ1 1)
    (c0 : x4 = 1 → τ.1 7 k p ≠ 2 → τ.1 8 k p = 1 → cntb (τ.1 10 k p) N ≠ 0 → ∀ σ1, RMs bm κ (aCall (aTake τ k (nI p) (nI w) x4 x5, ls, qs) k p N) σ1 → Q σ1 0) : wp_X5_ask σ (nI k) (nI p) (nI w) x4 x5 Q := by
  obtain ⟨hN2, hN6, eN⟩ := hi.1.1
  have hv6 : vp_in (nI k) 6 := vp_n (by omega) (by omega)
  have hv48 : vp_in (nI (8 * k + p)) 48 := vp_n (by omega) (by omega)
  have hw0 : τ.1 6 k 1 = 0 := (wt0 hi (by omega)).mpr hwt
  have hP := hi.1.2.2 k p (by omega) hp
  have hlen := hi.len
  simp only at hlen
  unfold wp_X5_ask
  refine M_isNode (h.n eN) hN6 (fun a1 => ⟨fun c => absurd c (by decide), fun _ => ?_⟩) (fun a1 => absurd ⟨k, hk, rfl⟩ a1)
  refine M_isPage (fun a2 => ⟨fun c => absurd c (by decide), fun _ => ?_⟩) (fun a2 => absurd ⟨p, hp, rfl⟩ a2)
  refine br (n := 4) rfl (by omega) (fun a3 => ⟨hv6, ?_⟩) (fun a3 => absurd ⟨w, hw, rfl⟩ a3)
  rw [i_n k (by omega)]
  refine ⟨fun _ => ?_, fun c => absurd ((h.2.2.2.1 k (by omega)).1.1.trans hw0) c⟩
  refine M_take h (by omega) (x4 := x5) hx _ (fun σ18 h18 => ⟨hv6, fun σ21 e21 => ?_⟩)
  have hr := h18 σ21 e21
  unfold wp_X5_place
  rw [pl_n]
  refine ⟨hv48, ?_⟩
  rw [i_n (8 * k + p) (by omega)]
  have hmp := hr.2.1 k p (by omega) hp
  rw [aTake_k (by decide), aTake_k (by decide), aTake_k (by decide), aTake_k (by decide)] at hmp
  have e21 : σ21.1 21 0 (8 * k + p) = τ.1 7 k p := hmp.1
  have e22 : σ21.1 22 0 (8 * k + p) = τ.1 8 k p := hmp.2.1
  rw [e21, e22]
  have hfin : ∀ (Q' : Sg → Prop), (∀ σ1, RMs bm κ (aCnt (aFin (aTake τ k (nI p) (nI w) x4 x5) k) 7, ls, qs) σ1 → Q' σ1) → wp_X5_finish σ21 (nI k) (fun σ40 => ∀ σ43, σ43 = sI σ40 41 0 (ix 7) (σ40.1 41 0 (ix 7) + 1) → Q' σ43) := fun Q' hq => by
    rw [ixl7]
    refine M_finish hr (by omega) (TyH.take hp hw) aTake_0 _ (fun σ40 h40 σ43 e43 => hq σ43 ?_)
    rw [e43]
    exact h40.cnt (by omega)
  have hsend : ∀ (kd : Nat) (Q' : Sg → Prop), (kd = 1 ∨ kd = 2) → (∀ σ1, RMs bm κ (aSend (sI (aTake τ k (nI p) (nI w) x4 x5) 6 k 1 (nI kd), ls, qs) kd k (gs τ k p) p (nI k) 0) σ1 → Q' σ1) → vp_in (nI k) 6 ∧ ∀ σ32, σ32 = sI σ21 28 0 k (nI kd) → vp_in (nI (8 * k + p)) 48 ∧ wp_X5_send σ32 (nI kd) (nI k) (σ32.1 23 0 (8 * k + p)) (nI p) (nI k) 0 (fun σ37 => Q' σ37) := fun kd Q' hkd hq => by
    refine ⟨hv6, fun σ32 e32 => ⟨hv48, ?_⟩⟩
    have h32 : RMs bm κ (sI (aTake τ k (nI p) (nI w) x4 x5) 6 k 1 (nI kd), ls, qs) σ32 := by
      rw [e32]
      exact hr.hd (Or.inl ⟨rfl, rfl⟩) k (nI kd)
    have e23 : σ32.1 23 0 (8 * k + p) = nI (gs τ k p) := by
      rw [(h32.2.1 k p (by omega) hp).2.2.1]
      show (sI (aTake τ k (nI p) (nI w) x4 x5) 6 k 1 (nI kd)).1 9 k p = _
      rw [sI_k (by decide), aTake_k (by decide)]
      exact hP.2.2.1.1
    rw [e23]
    exact M_send h32 (by show ls.length ≤ 188; omega) (by omega) hp (by omega) _ hq
  refine ⟨fun hx0 => ⟨fun c => ?_, fun c => ?_⟩, fun hx0 => ⟨fun c => ⟨hv48, fun c8 => ?_, fun c8 => ?_⟩, fun c => ?_⟩⟩
  · have c7 : τ.1 7 k p = 0 := by
      rcases hP.1 with z | z | z
      · exact z
      · rw [show (τ, ls, qs).1.1 7 k p = τ.1 7 k p from rfl] at z; rw [z] at c; exact absurd c (by decide)
      · rw [show (τ, ls, qs).1.1 7 k p = τ.1 7 k p from rfl] at z; rw [z] at c; exact absurd c (by decide)
    exact hsend 1 _ (Or.inl rfl) (r0 hx0 c7)
  · have c7 : τ.1 7 k p ≠ 0 := fun z => c (by rw [z]; decide)
    exact hfin _ (r1 (Or.inl ⟨hx0, c7⟩))
  · have hx1 := hx.resolve_left hx0
    have c7 : τ.1 7 k p ≠ 2 := fun z => by rw [z] at c; exact absurd c (by decide)
    exact hsend 2 _ (Or.inr rfl) (w0 hx1 c7 c8)
  · have hx1 := hx.resolve_left hx0
    have c7 : τ.1 7 k p ≠ 2 := fun z => by rw [z] at c; exact absurd c (by decide)
    have c8' : τ.1 8 k p = 1 := hP.2.1.resolve_left c8
    have e10 : (aTake τ k (nI p) (nI w) x4 x5).1 10 k p = τ.1 10 k p := by rw [aTake_k (by decide)]
    refine M_callBack (s := (aTake τ k (nI p) (nI w) x4 x5, ls, qs)) (N := N) hr (by omega) (TyH.take hp hw) hN6 (by show (aTake τ k (nI p) (nI w) x4 x5).1 0 0 3 = nI N; rw [aTake_k (by decide)]; exact eN) (by show ls.length + N ≤ 188; omega) aTake_0 aTake_66 _ (fun hc σ1 h1 => ⟨fun z => absurd z (by decide), fun _ σ62 e62 => ?_⟩) (fun hc σ1 h1 => ⟨fun _ => ?_, fun z => absurd rfl z⟩)
    · refine c1 hx1 c7 c8' (by rw [← e10]; exact hc) σ62 ?_
      rw [e62, ixl7]
      exact h1.cnt (by omega)
    · exact c0 hx1 c7 c8' (by rw [← e10]; exact hc) σ1 h1
  · have hx1 := hx.resolve_left hx0
    have c7 : τ.1 7 k p = 2 := by
      rcases hP.1 with z | z | z
      · rw [show (τ, ls, qs).1.1 7 k p = τ.1 7 k p from rfl] at z; rw [z] at c; exact absurd (by decide) c
      · rw [show (τ, ls, qs).1.1 7 k p = τ.1 7 k p from rfl] at z; rw [z] at c; exact absurd (by decide) c
      · exact z
    exact hfin _ (r1 (Or.inr ⟨hx1, c7⟩))
theorem M_goI {bm : Bool} {κ σ τ1 : Sg} {ls : List Lt} {qs : Qu} {N k p : Nat} (hk : k < 6) (hp : p < 8) (h : RMs bm κ (τ1, ls, qs) σ) (h0 : τ1.1 6 k 1 = 0) (hg : ∃ g, g < 6 ∧ τ1.1 9 k p = nI g) (hl : ls.length + (qs k p).length ≤ 30) (hN : N ≤ 6) (he : ∀ e, e ∈ qs k p → (e.1 = 1 ∨ e.1 = 2) ∧ e.2 < N) (Q : Sg → Prop) (hQ : ∀ σ1, RMs false κ (aGo (τ1, ls, qs) k p) σ1 → Q σ1) : wp_X5_goOver σ (nI k) (nI p) Q := by
  obtain ⟨g, hg6, eg⟩ := hg
  exact M_goOver (s := (τ1, ls, qs)) h hk hp (by show ls.length + (qs k p).length ≤ 188; omega) hg6 eg (wv := 0) (by omega) h0 (fun z => absurd rfl z) (fun e he' => ⟨(he e he').1, by have := (he e he').2; omega⟩) Q hQ
theorem or1 {x : Int32} (h : x = 0 ∨ x = 1) : (x ||| 1) = 1 ∧ (x ||| 0) = x := by
  rcases h with z | z <;> subst z <;> decide
/-- what becomes of the letter, once it is copied and dropped -/
theorem M_body {τ σ5 σ' : Sg} {ls : List Lt} {qs : Qu} {N pp i : Nat} {l : Lt} (hi : Inv N (τ, ls, qs) pp []) (hl : ls[i]? = some l) (h : RM true σ' τ (ls.eraseIdx i) qs σ5) (f : (σ5.1 42 0 0 = nI (lk l) ∧ σ5.1 42 0 1 = nI (lf l) ∧ σ5.1 42 0 2 = nI (lt l) ∧ σ5.1 42 0 3 = nI (lp l) ∧ σ5.1 42 0 4 = ln l ∧ σ5.1 42 0 5 = lc l) ∧ ∀ w, w < 4 → σ5.2.1 43 0 w = lw l w) (Q : Sg → Int32 → Prop) (hQ : ∀ σ1, RMs false σ' (aDel N (τ, ls.eraseIdx i, qs) l) σ1 → Q σ1 (nI (lk l))) :
    (wp_X5_place σ5 (σ5.1 42 0 (ix 2)) (σ5.1 42 0 (ix 3)) (fun σ8 r9 => (((σ5.1 42 0 (ix 0)) = 1 → (wp_X5_asked σ8 (σ5.1 42 0 (ix 2)) (σ5.1 42 0 (ix 3)) (σ5.1 42 0 (ix 0)) (σ8.1 42 0 (ix 4)) (fun σ12 => Q σ12 (σ5.1 42 0 (ix 0))))) ∧ (¬ ((σ5.1 42 0 (ix 0)) = 1) → (((σ5.1 42 0 (ix 0)) = 2 → (wp_X5_asked σ8 (σ5.1 42 0 (ix 2)) (σ5.1 42 0 (ix 3)) (σ5.1 42 0 (ix 0)) (σ8.1 42 0 (ix 4)) (fun σ16 => Q σ16 (σ5.1 42 0 (ix 0))))) ∧ (¬ ((σ5.1 42 0 (ix 0)) = 2) → (((σ5.1 42 0 (ix 0)) = 3 → (wp_X5_takeWords σ8 r9 (fun σ20 => (vp_in r9 48 ∧ (∀ σ23, σ23 = sI σ20 23 0 (ix r9) (σ5.1 42 0 (ix 1)) → (vp_in (σ5.1 42 0 (ix 2)) 6 ∧ (((σ23.1 34 0 (ix (σ5.1 42 0 (ix 2)))) = 0 → (vp_in r9 48 ∧ (∀ σ28, σ28 = sI σ23 21 0 (ix r9) 1 → (wp_X5_finish σ28 (σ5.1 42 0 (ix 2)) (fun σ31 => Q σ31 (σ5.1 42 0 (ix 0))))))) ∧ (¬ ((σ23.1 34 0 (ix (σ5.1 42 0 (ix 2)))) = 0) → (vp_in r9 48 ∧ (∀ σ34, σ34 = sI σ23 21 0 (ix r9) 0 → (wp_X5_finish σ34 (σ5.1 42 0 (ix 2)) (fun σ37 => Q σ37 (σ5.1 42 0 (ix 0)))))))))))))) ∧ (¬ ((σ5.1 42 0 (ix 0)) = 3) → (((σ5.1 42 0 (ix 0)) = 4 → (wp_X5_takeWords σ8 r9 (fun σ41 => (vp_in r9 48 ∧ (∀ σ44, σ44 = sI σ41 24 0 (ix r9) ((σ41.1 42 0 (ix 5)) &&& ((1 <<< ((σ5.1 42 0 (ix 2)) &&& 31)) ^^^ (-1))) → (vp_in r9 48 ∧ (∀ σ47, σ47 = sI σ44 22 0 (ix r9) 1 → (vp_in r9 48 ∧ (∀ σ50, σ50 = sI σ47 23 0 (ix r9) (σ5.1 42 0 (ix 2)) → (wp_X5_callBack σ50 (σ5.1 42 0 (ix 2)) (fun σ53 r54 => ((r54 = 0 → Q σ53 (σ5.1 42 0 (ix 0))) ∧ (¬ (r54 = 0) → (wp_X5_goOver σ53 (σ5.1 42 0 (ix 2)) (σ5.1 42 0 (ix 3)) (fun σ57 => Q σ57 (σ5.1 42 0 (ix 0))))))))))))))))) ∧ (¬ ((σ5.1 42 0 (ix 0)) = 4) → (((σ5.1 42 0 (ix 0)) = 5 → (vp_in r9 48 ∧ (∀ σ61, σ61 = sI σ8 21 0 (ix r9) 0 → (vp_in r9 48 ∧ (∀ σ64, σ64 = sI σ61 23 0 (ix r9) (σ5.1 42 0 (ix 1)) → (vp_in (σ5.1 42 0 (ix 2)) 6 ∧ (vp_in (σ5.1 42 0 (ix 2)) 6 ∧ (((σ64.1 28 0 (ix (σ5.1 42 0 (ix 2)))) = 1 → (vp_in (σ5.1 42 0 (ix 2)) 6 ∧ (((σ64.1 29 0 (ix (σ5.1 42 0 (ix 2)))) = (σ5.1 42 0 (ix 3)) → (vp_in (σ5.1 42 0 (ix 2)) 6 ∧ ((((σ64.1 34 0 (ix (σ5.1 42 0 (ix 2)))) ||| 1) = 0 ∨ ((σ64.1 34 0 (ix (σ5.1 42 0 (ix 2)))) ||| 1) = 1) ∧ (∀ σ72, σ72 = sI σ64 34 0 (ix (σ5.1 42 0 (ix 2))) ((σ64.1 34 0 (ix (σ5.1 42 0 (ix 2)))) ||| 1) → (wp_X5_send σ72 6 (σ5.1 42 0 (ix 2)) (σ5.1 42 0 (ix 1)) (σ5.1 42 0 (ix 3)) (-1) 0 (fun σ76 => Q σ76 (σ5.1 42 0 (ix 0)))))))) ∧ (¬ ((σ64.1 29 0 (ix (σ5.1 42 0 (ix 2)))) = (σ5.1 42 0 (ix 3))) → (vp_in (σ5.1 42 0 (ix 2)) 6 ∧ ((((σ64.1 34 0 (ix (σ5.1 42 0 (ix 2)))) ||| 0) = 0 ∨ ((σ64.1 34 0 (ix (σ5.1 42 0 (ix 2)))) ||| 0) = 1) ∧ (∀ σ79, σ79 = sI σ64 34 0 (ix (σ5.1 42 0 (ix 2))) ((σ64.1 34 0 (ix (σ5.1 42 0 (ix 2)))) ||| 0) → (wp_X5_send σ79 6 (σ5.1 42 0 (ix 2)) (σ5.1 42 0 (ix 1)) (σ5.1 42 0 (ix 3)) (-1) 0 (fun σ83 => Q σ83 (σ5.1 42 0 (ix 0))))))))))) ∧ (¬ ((σ64.1 28 0 (ix (σ5.1 42 0 (ix 2)))) = 1) → (vp_in (σ5.1 42 0 (ix 2)) 6 ∧ ((((σ64.1 34 0 (ix (σ5.1 42 0 (ix 2)))) ||| 0) = 0 ∨ ((σ64.1 34 0 (ix (σ5.1 42 0 (ix 2)))) ||| 0) = 1) ∧ (∀ σ86, σ86 = sI σ64 34 0 (ix (σ5.1 42 0 (ix 2))) ((σ64.1 34 0 (ix (σ5.1 42 0 (ix 2)))) ||| 0) → (wp_X5_send σ86 6 (σ5.1 42 0 (ix 2)) (σ5.1 42 0 (ix 1)) (σ5.1 42 0 (ix 3)) (-1) 0 (fun σ90 => Q σ90 (σ5.1 42 0 (ix 0)))))))))))))))) ∧ (¬ ((σ5.1 42 0 (ix 0)) = 5) → (vp_in (σ5.1 42 0 (ix 2)) 6 ∧ (vp_in (σ5.1 42 0 (ix 2)) 6 ∧ (∀ σ94, σ94 = sI σ8 33 0 (ix (σ5.1 42 0 (ix 2))) ((σ8.1 33 0 (ix (σ5.1 42 0 (ix 2)))) - 1) → (vp_in (σ5.1 42 0 (ix 2)) 6 ∧ (((σ94.1 33 0 (ix (σ5.1 42 0 (ix 2)))) = 0 → (vp_in r9 48 ∧ (∀ σ99, σ99 = sI σ94 21 0 (ix r9) 2 → (wp_X5_finish σ99 (σ5.1 42 0 (ix 2)) (fun σ102 => (wp_X5_goOver σ102 (σ5.1 42 0 (ix 2)) (σ5.1 42 0 (ix 3)) (fun σ105 => Q σ105 (σ5.1 42 0 (ix 0))))))))) ∧ (¬ ((σ94.1 33 0 (ix (σ5.1 42 0 (ix 2)))) = 0) → Q σ94 (σ5.1 42 0 (ix 0)))))))))))))))))))) := by
  obtain ⟨⟨v0, v1, v2, v3, v4, v5⟩, v6⟩ := f
  obtain ⟨hN2, hN6, eN⟩ := hi.1.1
  have hlw := hi.lw hl
  obtain ⟨A, B, e1, e2⟩ := er_split ls i l hl
  rw [e1] at hi
  rw [e2] at h hQ
  obtain ⟨l1, l2, l3, l4, l5, l6, l7, l8, l9, l10⟩ := id hlw
  have hlen : (A ++ B).length ≤ 29 := by
    have := hi.len
    simp at this ⊢
    omega
  unfold wp_X5_place
  simp only [ixl0, ixl1, ixl2, ixl3, ixl4, ixl5]
  rw [v0, v1, v2, v3, v4, pl_n, i_n (lt l) (by omega), i_n (8 * lt l + lp l) (by omega)]
  have hv6 : vp_in (nI (lt l)) 6 := vp_n (by omega) (by omega)
  have hv48 : vp_in (nI (8 * lt l + lp l)) 48 := vp_n (by omega) (by omega)
  unfold aDel at hQ
  have nk : ∀ c : Nat, c ≤ 6 → (nI (lk l) = nI c ↔ lk l = c) := fun c hc => nI_eq (by omega) (by omega)
  have hK := hi.1.2.1 (lt l) (by omega)
  simp only at hK
  have hask : lk l ≤ 2 → wp_X5_asked σ5 (nI (lt l)) (nI (lp l)) (nI (lk l)) (ln l) (fun σ12 => Q σ12 (nI (lk l))) := fun c2 => by
    rw [if_pos c2] at hQ
    have hd := (I_d12 hi c2).1
    have hg := ((hd.1.2.2 (lt l) (lp l) (by omega) l4).2.2.1)
    simp only at hg
    have hq5 := hd.2.1.q5 hN6 (k := lt l) (p := lp l) (by omega) l4
    rw [l10 c2]
    exact M_asked (s := (τ, A ++ B, qs)) h (by show (A ++ B).length ≤ 188; omega) (by omega) l4 (by omega) (g := gs τ (lt l) (lp l)) (by omega) hg.1 (wv := wt τ (lt l)) hK.1.2 hK.1.1 (fun z => (hK.2.2.2.2.2.2.1 z).1) (by simp only at hq5 ⊢; omega) _ (fun σ1 hr => hQ σ1 hr.weak)
  refine ⟨fun c => hask (by rw [(nk 1 (by omega)).mp c]; omega), fun c1 => ⟨fun c => hask (by rw [(nk 2 (by omega)).mp c]; omega), fun c2 => ?_⟩⟩
  have n1 : lk l ≠ 1 := fun z => c1 ((nk 1 (by omega)).mpr z)
  have n2 : lk l ≠ 2 := fun z => c2 ((nk 2 (by omega)).mpr z)
  rw [if_neg (by omega)] at hQ
  refine ⟨fun c => ?_, fun c3 => ?_⟩
  · have c := (nk 3 (by omega)).mp c
    rw [if_pos c] at hQ
    have hwt : wt τ (lt l) = 1 := by rw [tid_34' (Or.inl c), c] at l7; exact l7
    have hhad := (hK.2.2.2.2.2.2.1 (by rw [hwt]; omega)).1
    refine M_takeWords h (by omega) l4 v6 _ (fun σ20 h20 => ⟨hv48, fun σ23 e23 => ⟨hv6, ?_⟩⟩)
    have h23 := h20.pg (Or.inr (Or.inr (Or.inl ⟨rfl, rfl⟩))) (k := lt l) l4 (nI (lf l))
    rw [← e23] at h23
    have e34 : σ23.1 34 0 (lt l) = τ.1 6 (lt l) 7 := by
      rw [(h23.2.2.2.1 (lt l) (by omega)).1.2.2.1, sI_6 (by decide)]; rfl
    rw [e34]
    have hTyH : ∀ v, TyH (sI (sI (sW τ (lt l) (lp l * 4) (lw l)) 9 (lt l) (lp l) (nI (lf l))) 7 (lt l) (lp l) v) (lt l) (pg τ (lt l)) (wd τ (lt l)) := fun v => by
      refine ⟨hK.2.1.2, ?_, hK.2.2.1.2, ?_⟩
      · rw [sI_6 (by decide), sI_6 (by decide)]; exact hK.2.1.1
      · rw [sI_6 (by decide), sI_6 (by decide)]; exact hK.2.2.1.1
    have hh : ∀ v, (sI (sI (sW τ (lt l) (lp l * 4) (lw l)) 9 (lt l) (lp l) (nI (lf l))) 7 (lt l) (lp l) v).1 6 (lt l) 0 = 1 := fun v => by rw [sI_6 (by decide), sI_6 (by decide)]; exact hhad
    unfold aGr at hQ
    refine ⟨fun c0 => ⟨hv48, fun σ28 e28 => ?_⟩, fun c0 => ⟨hv48, fun σ28 e28 => ?_⟩⟩
    · rw [if_pos (show (τ, A ++ B, qs).1.1 6 (lt l) 7 = 0 from c0)] at hQ
      have h28 := h23.pg (Or.inl ⟨rfl, rfl⟩) (k := lt l) l4 1
      rw [← e28] at h28
      exact M_finish h28 (by omega) (hTyH 1) (hh 1) _ (fun σ1 hr => hQ σ1 hr.weak)
    · rw [if_neg (show ¬ (τ, A ++ B, qs).1.1 6 (lt l) 7 = 0 from c0)] at hQ
      have h28 := h23.pg (Or.inl ⟨rfl, rfl⟩) (k := lt l) l4 0
      rw [← e28] at h28
      exact M_finish h28 (by omega) (hTyH 0) (hh 0) _ (fun σ1 hr => hQ σ1 hr.weak)
  have n3 : lk l ≠ 3 := fun z => c3 ((nk 3 (by omega)).mpr z)
  rw [if_neg n3] at hQ
  refine ⟨fun c => ?_, fun c4 => ?_⟩
  · have c := (nk 4 (by omega)).mp c
    rw [if_pos c] at hQ
    have hwt : wt τ (lt l) = 2 := by rw [tid_34' (Or.inr c), c] at l7; exact l7
    have hpg : pg τ (lt l) = lp l := by rw [tid_34' (Or.inr c)] at l8; exact l8
    have hhad := (hK.2.2.2.2.2.2.1 (by rw [hwt]; omega)).1
    have han : an τ (lt l) = 0 := hK.2.2.2.2.1 (by rw [hwt]; omega)
    have h66 : τ.1 6 (lt l) 6 = 0 := by rw [hK.2.2.2.1.1, han]; rfl
    have hI := I_d4 hi c
    refine M_takeWords h (by omega) l4 v6 _ (fun σ41 h41 => ⟨hv48, fun σ44 e44 => ⟨hv48, fun σ47 e47 => ⟨hv48, fun σ50 e50 => ?_⟩⟩⟩)
    have e42 : σ41.1 42 0 5 = lc l := by
      rw [(h41.1.1 42 (Or.inr ⟨rfl, Or.inl rfl⟩)).1, ← (h.1.1 42 (Or.inr ⟨rfl, Or.inl rfl⟩)).1]
      exact v5
    rw [e42] at e44
    have h44 := h41.pg (Or.inr (Or.inr (Or.inr ⟨rfl, rfl⟩))) (k := lt l) l4 (lc l &&& ((1 <<< (nI (lt l) &&& 31)) ^^^ (-1)))
    have h47 := h44.pg (Or.inr (Or.inl ⟨rfl, rfl⟩)) (k := lt l) l4 1
    have h50 := h47.pg (Or.inr (Or.inr (Or.inl ⟨rfl, rfl⟩))) (k := lt l) l4 (nI (lt l))
    rw [← e44, ← e47, ← e50] at h50
    have h50' : RMs true σ' (aGw τ (lt l) (lp l) (lc l) (lw l), A ++ B, qs) σ50 := h50
    have s6 : (aGw τ (lt l) (lp l) (lc l) (lw l)).1 6 = τ.1 6 := aGw_6
    refine M_callBack (s := (aGw τ (lt l) (lp l) (lc l) (lw l), A ++ B, qs)) (N := N) (p := lp l) (w := wd τ (lt l)) h50' (by omega) ⟨l4, by rw [s6, ← hpg]; exact hK.2.1.1, hK.2.2.1.2, by rw [s6]; exact hK.2.2.1.1⟩ hN6 (by show (aGw τ (lt l) (lp l) (lc l) (lw l)).1 0 0 3 = nI N; rw [aGw_0]; exact eN) (by show (A ++ B).length + N ≤ 188; omega) (by show (aGw τ (lt l) (lp l) (lc l) (lw l)).1 6 (lt l) 0 = 1; rw [s6]; exact hhad) (by show (aGw τ (lt l) (lp l) (lc l) (lw l)).1 6 (lt l) 6 = 0; rw [s6]; exact h66) _ (fun hc σ1 h1 => ⟨fun z => absurd z (by decide), fun _ => ?_⟩) (fun hc σ1 h1 => ⟨fun _ => ?_, fun z => absurd rfl z⟩)
    · rw [aFia_0 (by show (aGw τ (lt l) (lp l) (lc l) (lw l)).1 6 (lt l) 6 = 0; rw [s6]; exact h66) hc] at hQ
      have hP4 := (hI.1.2.2 (lt l) (lp l) (by omega) l4).2.2.1
      have hl30 := hI.2.1.len30 hN6 (k := lt l) (p := lp l) (by omega) l4
      have hqq : (aCall (aGw τ (lt l) (lp l) (lc l) (lw l), A ++ B, qs) (lt l) (lp l) N).2.2 = qs := (aCall_6 (by show (aGw τ (lt l) (lp l) (lc l) (lw l)).1 6 (lt l) 6 = 0; rw [s6]; exact h66)).2.2
      rw [hqq] at hl30
      refine M_goI (N := N) (by omega) l4 h1 aFin_w ⟨_, Nat.lt_of_lt_of_le hP4.2 hN6, by rw [aFin_k (by decide) (by decide), sI_k (by decide)]; exact hP4.1⟩ hl30 hN6 (fun e he => ?_) _ (fun σ2 h2 => hQ σ2 h2)
      have := hI.2.1.2.2.2.1 (lt l) (lp l) e (by omega) l4 (by rw [hqq]; exact he)
      exact ⟨this.1, this.2.1⟩
    · rw [aFia_n (by show (aGw τ (lt l) (lp l) (lc l) (lw l)).1 6 (lt l) 6 = 0; rw [s6]; exact h66) hN6 hc] at hQ
      exact hQ σ1 h1.weak
  have n4 : lk l ≠ 4 := fun z => c4 ((nk 4 (by omega)).mpr z)
  rw [if_neg n4] at hQ
  refine ⟨fun c => ?_, fun c5 => ?_⟩
  · have c := (nk 5 (by omega)).mp c
    rw [if_pos c] at hQ
    refine ⟨hv48, fun σ61 e61 => ⟨hv48, fun σ64 e64 => ⟨hv6, hv6, ?_⟩⟩⟩
    have h64 := (h.pg (Or.inl ⟨rfl, rfl⟩) (k := lt l) l4 0).pg (Or.inr (Or.inr (Or.inl ⟨rfl, rfl⟩))) (k := lt l) l4 (nI (lf l))
    rw [← e61, ← e64] at h64
    have e6 : (sI (sI τ 7 (lt l) (lp l) 0) 9 (lt l) (lp l) (nI (lf l))).1 6 = τ.1 6 := by rw [sI_6 (by decide), sI_6 (by decide)]
    have hm := h64.2.2.2.1 (lt l) (by omega)
    rw [e6] at hm
    have e28 : σ64.1 28 0 (lt l) = τ.1 6 (lt l) 1 := hm.1.1
    have e34 : σ64.1 34 0 (lt l) = τ.1 6 (lt l) 7 := hm.1.2.2.1
    have h7 := hK.2.2.2.2.2.2.2
    rw [e28, e34, (or1 h7).1, (or1 h7).2]
    have hsd : ∀ (t σ72 : Sg), RM true σ' t (A ++ B) qs σ72 → aCd τ (lt l) (lp l) (lf l) = t → wp_X5_send σ72 6 (nI (lt l)) (nI (lf l)) (nI (lp l)) (-1) 0 (fun σ76 => Q σ76 (nI (lk l))) := fun t σ72 h72 et => by
      refine M_send (s := (t, A ++ B, qs)) (kd := 6) h72 (by show (A ++ B).length ≤ 188; omega) (by omega) l4 (by omega) _ (fun σ1 hr => hQ σ1 ?_)
      rw [show (τ, A ++ B, qs).1 = τ from rfl, et]
      exact hr.weak
    have hself : ∀ σ79, σ79 = sI σ64 34 0 (lt l) (τ.1 6 (lt l) 7) → RM true σ' (sI (sI τ 7 (lt l) (lp l) 0) 9 (lt l) (lp l) (nI (lf l))) (A ++ B) qs σ79 := fun σ79 e79 => by
      have h79 := h64.hd (Or.inr (Or.inr (Or.inl ⟨rfl, rfl⟩))) (lt l) (τ.1 6 (lt l) 7)
      rw [← e79] at h79
      rw [show τ.1 6 (lt l) 7 = (sI (sI τ 7 (lt l) (lp l) 0) 9 (lt l) (lp l) (nI (lf l))).1 6 (lt l) 7 by rw [e6], sI_self] at h79
      exact h79
    refine ⟨fun cw => ⟨hv6, ?_⟩, fun cw => ⟨hv6, ?_, fun σ79 e79 => ?_⟩⟩
    · have hwt : wt τ (lt l) ≠ 0 := fun z => by
        rw [hK.1.1, z] at cw
        exact absurd cw (by decide)
      have e29 : σ64.1 29 0 (lt l) = τ.1 6 (lt l) 2 := (hm.2 (hK.2.2.2.2.2.2.1 hwt).1).1
      rw [e29]
      refine ⟨fun cp => ⟨hv6, Or.inr rfl, fun σ72 e72 => ?_⟩, fun cp => ⟨hv6, h7, fun σ79 e79 => ?_⟩⟩
      · refine hsd (sI (sI (sI τ 7 (lt l) (lp l) 0) 9 (lt l) (lp l) (nI (lf l))) 6 (lt l) 7 1) σ72 (by rw [e72]; exact h64.hd (Or.inr (Or.inr (Or.inl ⟨rfl, rfl⟩))) (lt l) 1) ?_
        unfold aCd
        simp only
        rw [if_pos ⟨cw, cp⟩]
      · refine hsd _ σ79 (hself σ79 e79) ?_
        unfold aCd
        simp only
        rw [if_neg (fun z => cp z.2)]
    · exact h7
    · refine hsd _ σ79 (hself σ79 e79) ?_
      unfold aCd
      simp only
      rw [if_neg (fun z => cw z.1)]
  have n5 : lk l ≠ 5 := fun z => c5 ((nk 5 (by omega)).mpr z)
  rw [if_neg n5] at hQ
  have h6 := I_d6 hi (by omega)
  have ht : tid l = (lt l, lf l) := by unfold tid; rw [if_neg (by omega), if_neg (by omega), if_pos (by omega)]
  have hpg : pg τ (lt l) = lp l := by rw [ht] at l8; exact l8
  have hw3 : τ.1 6 (lt l) 1 = 3 := by rw [hK.1.1, h6.1]; rfl
  have hhad := (hK.2.2.2.2.2.2.1 (by rw [h6.1]; omega)).1
  refine ⟨hv6, hv6, fun σ94 e94 => ⟨hv6, ?_⟩⟩
  have hm := (h.2.2.2.1 (lt l) (by omega)).1.2.1
  rw [hm] at e94
  have h94 := h.hd (Or.inr (Or.inl ⟨rfl, rfl⟩)) (lt l) (τ.1 6 (lt l) 6 - 1)
  rw [← e94] at h94
  have e33 : σ94.1 33 0 (lt l) = τ.1 6 (lt l) 6 - 1 := by rw [e94]; simp [sI]
  rw [e33, h6.2.1.2]
  have ha6 := hK.2.2.2.1.2
  unfold aFia at hQ
  have e61 : (sI τ 6 (lt l) 6 (τ.1 6 (lt l) 6 - 1)).1 6 (lt l) 1 = 3 := by simp [sI]; exact hw3
  have e66 : (sI τ 6 (lt l) 6 (τ.1 6 (lt l) 6 - 1)).1 6 (lt l) 6 = nI (an τ (lt l) - 1) := by rw [← h6.2.1.2]; simp [sI]
  simp only at hQ
  rw [e61, e66] at hQ
  refine ⟨fun c => ⟨hv48, fun σ99 e99 => ?_⟩, fun c => ?_⟩
  · have c0 : an τ (lt l) - 1 = 0 := nI_inj (b := 0) (by omega) (by omega) c
    rw [if_pos ⟨rfl, by rw [c0]; decide⟩] at hQ
    have h99 := h94.pg (Or.inl ⟨rfl, rfl⟩) (k := lt l) l4 2
    rw [← e99] at h99
    refine M_finish h99 (by omega) (p := lp l) (w := wd τ (lt l)) ⟨l4, ?_, hK.2.2.1.2, ?_⟩ ?_ _ (fun σ102 h102 => ?_)
    · rw [sI_6 (by decide), ← hpg]
      simp [sI]
      exact hK.2.1.1
    · rw [sI_6 (by decide)]
      simp [sI]
      exact hK.2.2.1.1
    · rw [sI_6 (by decide)]
      simp [sI]
      exact hhad
    · have hP6 := (h6.2.2.1.2.2 (lt l) (lp l) (by omega) l4).2.2.1
      have hl30 := h6.2.2.2.1.len30 hN6 (k := lt l) (p := lp l) (by omega) l4
      refine M_goI (N := N) (τ1 := aFin (sI (sI τ 6 (lt l) 6 (τ.1 6 (lt l) 6 - 1)) 7 (lt l) (lp l) 2) (lt l)) (ls := A ++ B) (qs := qs) (by omega) l4 h102 aFin_w ⟨_, Nat.lt_of_lt_of_le hP6.2 hN6, by rw [aFin_k (by decide) (by decide), sI_k (by decide)]; exact hP6.1⟩ hl30 hN6 (fun e he => ?_) _ (fun σ2 h2 => hQ σ2 h2)
      have := h6.2.2.2.1.2.2.2.1 (lt l) (lp l) e (by omega) l4 he
      exact ⟨this.1, this.2.1⟩
  · rw [if_neg (fun z => by
      have z2 := z.2
      refine absurd z2 (nI_ge (a := 0) ?_ (by omega))
      by_cases y : an τ (lt l) - 1 = 0
      · exact absurd (by rw [y]; rfl) c
      · omega)] at hQ
    exact hQ σ94 h94.weak
theorem M_deliver {κ τ σ : Sg} {ls : List Lt} {qs : Qu} {N pp i : Nat} {l : Lt} (h : RM false κ τ ls qs σ) (hi : Inv N (τ, ls, qs) pp []) (hl : ls[i]? = some l) (Q : Sg → Int32 → Prop) (hQ : ∀ σ1, RMs false κ (aDel N (τ, ls.eraseIdx i, qs) l) σ1 → Q σ1 (nI (lk l))) : wp_X5_deliver σ (nI i) Q := by
  have hil := (List.getElem?_eq_some_iff.mp hl).1
  have hlen := hi.len
  simp only at hlen
  have L2 : ∀ (m y : Nat) (σ' : Sg), y + m = 4 → RM false κ τ ls qs σ' → (σ'.1 42 0 0 = nI (lk l) ∧ σ'.1 42 0 1 = nI (lf l) ∧ σ'.1 42 0 2 = nI (lt l) ∧ σ'.1 42 0 3 = nI (lp l) ∧ σ'.1 42 0 4 = ln l ∧ σ'.1 42 0 5 = lc l) → (∀ w, w < y → σ'.2.1 43 0 w = lw l w) → lp_X5_deliver_47 (nI i) Q (m + 1) σ' (nI y) := by
    intro m
    induction m with
    | zero =>
      intro y σ' hy hR hf hw
      have hy : y = 4 := by omega
      subst hy
      rw [lp_X5_deliver_47]
      refine ⟨fun _ => ?_, fun c => absurd (nI_le (Nat.le_refl 4) (by decide)) c⟩
      refine M_drop (hR.self true) hil _ (fun σ5 h5 => ?_)
      refine M_body hi hl h5 ⟨?_, fun w hw4 => ?_⟩ Q (fun σ1 h1 => hQ σ1 (h1.re hR))
      · rw [(h5.1.1 42 (Or.inr ⟨rfl, Or.inl rfl⟩)).1]
        exact hf
      · rw [(h5.1.1 43 (Or.inr ⟨rfl, Or.inr (Or.inl rfl)⟩)).2]
        exact hw w hw4
    | succ m ih =>
      intro y σ' hy hR hf hw
      rw [lp_X5_deliver_47, nI_4lit, nI_add, nI_p1, i_n y (by omega), i_n (4 * i + y) (by omega)]
      refine ⟨fun c => absurd c (nI_ge (b := 4) (by omega) (by omega)), fun _ => ⟨vp_n (by omega) (by omega), vp_n (by omega) (by omega), fun σ3 e3 => ?_⟩⟩
      have hw39 := ((hR.2.2.2.2.2.1.2.2 i l hl).2 y (by omega))
      refine ih (y + 1) σ3 (by omega) (by rw [e3]; exact hR.lx _ _ _) (by rw [e3]; exact hf) (fun w hw' => ?_)
      rw [e3, hw39]
      by_cases e : w = y
      · subst e; simp [sL]
      · simp [sL, e]; exact hw w (by omega)
  have L1 : ∀ (m y : Nat) (σ' : Sg), y + m = 7 → RM false κ τ ls qs σ' → (∀ j, j < y → σ'.1 42 0 j = σ.1 38 0 (7 * i + j)) → σ'.1 38 = σ.1 38 → lp_X5_deliver_16 (nI i) Q (m + 1) σ' (nI y) := by
    intro m
    induction m with
    | zero =>
      intro y σ' hy hR hf _
      have hy : y = 7 := by omega
      subst hy
      rw [lp_X5_deliver_16]
      refine ⟨fun _ => ⟨5, L2 4 0 σ' (by decide) hR ?_ (fun w hw => by omega)⟩, fun c => absurd (nI_le (Nat.le_refl 7) (by decide)) c⟩
      obtain ⟨g0, g1, g2, g3, g4, g5⟩ := (h.2.2.2.2.2.1.2.2 i l hl).1
      rw [hf 0 (by omega), hf 1 (by omega), hf 2 (by omega), hf 3 (by omega), hf 4 (by omega), hf 5 (by omega), Nat.add_zero]
      exact ⟨g0, g1, g2, g3, g4, g5⟩
    | succ m ih =>
      intro y σ' hy hR hf h38
      rw [lp_X5_deliver_16, nI_lit7, nI_add, nI_p1, i_n y (by omega), i_n (7 * i + y) (by omega)]
      refine ⟨fun c => absurd c (nI_ge (b := 7) (by omega) (by omega)), fun _ => ⟨vp_n (by omega) (by omega), vp_n (by omega) (by omega), fun σ3 e3 => ?_⟩⟩
      refine ih (y + 1) σ3 (by omega) (by rw [e3]; exact hR.x (Or.inl rfl) _ _ _) (fun j hj => ?_) (by rw [e3, sI_k (by decide)]; exact h38)
      rw [e3, h38]
      by_cases e : j = y
      · subst e; simp [sI]
      · simp [sI, e]; exact hf j (by omega)
  unfold wp_X5_deliver
  exact br2 h.2.2.2.2.2.1.1 (by omega) (fun _ => ⟨8, L1 7 0 σ (by decide) h (fun j hj => by omega) rfl⟩) (fun z => absurd ⟨i, hil, rfl⟩ z)
theorem M_delN {κ τ σ : Sg} {ls : List Lt} {qs : Qu} (h : RM false κ τ ls qs σ) {x1 : Int32} (hn : ¬ inR x1 ls.length) (Q : Sg → Int32 → Prop) (hQ : Q σ (-1)) : wp_X5_deliver σ x1 Q := by
  have := h.2.2.2.2.2.1.2.1
  exact br2 h.2.2.2.2.2.1.1 (by omega) (fun z => absurd z hn) (fun _ => hQ)
