/-! HISTORY: the states kept, as a list of houses -/
def hN (σ : Sg) : Nat := (σ.1 (3, 0, 0) 1).toNatClampNeg
def HiOK (σ : Sg) : Prop := hN σ ≤ 6 ∧ σ.1 (3, 0, 0) 1 = nI (hN σ) ∧ (∀ i, i < 6 → 2 ≤ σ.2 i) ∧ (∀ i j, i < 6 → j < 6 → σ.2 i = σ.2 j → i = j) ∧ ∀ i, i < 6 → HOK σ (σ.2 i)
def hist (σ : Sg) : List HA := (List.range (hN σ)).map (fun i => habs σ (σ.2 i))
def isHi (q : Lo) : Prop := q = (3, 0, 0) ∨ (q.1 ≤ 2 ∧ 2 ≤ q.2.2)
def FrHi (σ σ' : Sg) : Prop := ∀ q, ¬ isHi q → σ'.1 q = σ.1 q
def keepL (l : List HA) (S : HA) : List HA := (if l.length < 6 then l else l.tail) ++ [S]
theorem shp_only (p : Lo) (h : p ≠ (4, 0, 0)) (m : Nat) : shp p ≠ .inr (2, m) := by
  intro e
  unfold shp at e
  split at e <;> first | (cases e; done) | (exact h rfl) | (have e2 := Sum.inr.inj e; have e3 := congrArg Prod.fst e2; simp at e3)
theorem hN_of {σ : Sg} {n : Nat} (hn : n ≤ 6) (e : σ.1 (3, 0, 0) 1 = nI n) : hN σ = n := by rw [hN, e, nI_clamp (by omega)]
theorem habs_of {σ σ' : Sg} {h : Nat} (e0 : ∀ j, σ'.1 (0, j, h) = σ.1 (0, j, h)) (e1 : ∀ j, σ'.1 (1, j, h) = σ.1 (1, j, h)) (e2 : σ'.1 (2, 0, h) = σ.1 (2, 0, h)) : habs σ' h = habs σ h ∧ (HOK σ h → HOK σ' h) := by
  refine ⟨Prod.ext ?_ ?_, fun hH => ⟨hH.1, fun j hj => (tabs_of (e0 j) (e1 j)).2 (hH.2 j hj)⟩⟩
  · funext j
    show (if j < 5 then tabs σ' j h else _) = if j < 5 then tabs σ j h else _
    rw [(tabs_of (e0 j) (e1 j)).1]
  · funext k
    show (if 5 ≤ k ∧ k ≤ 8 then σ'.1 (2, 0, h) k else 0) = if 5 ≤ k ∧ k ≤ 8 then σ.1 (2, 0, h) k else 0
    rw [e2]
theorem notHi {k j h : Nat} (hk : k ≠ 3) (hh : h < 2) : ¬ isHi (k, j, h) := by
  rintro (q | q)
  · exact hk (congrArg Prod.fst q)
  · have : 2 ≤ h := q.2
    omega
theorem FrHi.house {σ σ' : Sg} {h : Nat} (hF : FrHi σ σ') (hh : h < 2) : habs σ' h = habs σ h ∧ (HOK σ h → HOK σ' h) :=
  habs_of (fun j => hF (0, j, h) (notHi (by decide) hh)) (fun j => hF (1, j, h) (notHi (by decide) hh)) (hF (2, 0, h) (notHi (by decide) hh))
-- the number of states is set
theorem hi_N {σ σ' : Sg} {n : Nat} (hn : n ≤ 6) (e : (upd2 σ.1 (3, 0, 0) 1 (nI n), σ.2) = σ') (hb : (∀ i, i < 6 → 2 ≤ σ.2 i) ∧ (∀ i j, i < 6 → j < 6 → σ.2 i = σ.2 j → i = j) ∧ ∀ i, i < 6 → HOK σ (σ.2 i)) : HiOK σ' ∧ hN σ' = n ∧ σ'.2 = σ.2 ∧ (∀ h, habs σ' h = habs σ h ∧ (HOK σ h → HOK σ' h)) ∧ ∀ q, q ≠ (3, 0, 0) → σ'.1 q = σ.1 q := by
  subst e
  have ho : ∀ q, q ≠ (3, 0, 0) → (upd2 σ.1 (3, 0, 0) 1 (nI n), σ.2).1 q = σ.1 q := fun q hq => upd2_ne σ.1 (q := (3, 0, 0)) (p := q) 1 (nI n) hq
  have e0 : (upd2 σ.1 (3, 0, 0) 1 (nI n), σ.2).1 (3, 0, 0) 1 = nI n := by
    show upd2 σ.1 (3, 0, 0) 1 (nI n) (3, 0, 0) 1 = nI n
    rw [upd2_same]
    simp [upd]
  have hh : ∀ h, habs (upd2 σ.1 (3, 0, 0) 1 (nI n), σ.2) h = habs σ h ∧ (HOK σ h → HOK (upd2 σ.1 (3, 0, 0) 1 (nI n), σ.2) h) := fun h => habs_of (fun j => ho _ (by simp)) (fun j => ho _ (by simp)) (ho _ (by simp))
  have hnn := hN_of hn e0
  refine ⟨⟨by rw [hnn]; exact hn, by rw [hnn]; exact e0, hb.1, hb.2.1, fun i hi => (hh _).2 (hb.2.2 i hi)⟩, hnn, rfl, hh, ho⟩
theorem hist_eq {σ : Sg} {n : Nat} (h : hN σ = n) : hist σ = (List.range n).map (fun i => habs σ (σ.2 i)) := by rw [hist, h]
-- keeping, after the oldest is dropped: the house is copied to the place n, and n + 1 are kept
theorem keep_end {σ σ1 σ2 : Sg} {n : Nat} {S : HA} (hn : n < 6) (hi : (∀ i, i < 6 → 2 ≤ σ.2 i) ∧ (∀ i j, i < 6 → j < 6 → σ.2 i = σ.2 j → i = j) ∧ ∀ i, i < 6 → HOK σ (σ.2 i)) (hW : HW (σ.2 n) S σ σ1) (e : (upd2 σ1.1 (3, 0, 0) 1 (nI (n + 1)), σ1.2) = σ2) :
    HiOK σ2 ∧ hist σ2 = (List.range n).map (fun i => habs σ (σ.2 i)) ++ [S] ∧ FrHi σ σ2 := by
  have hp : σ1.2 = σ.2 := hW.2.2.2
  have hb1 : (∀ i, i < 6 → 2 ≤ σ1.2 i) ∧ (∀ i j, i < 6 → j < 6 → σ1.2 i = σ1.2 j → i = j) ∧ ∀ i, i < 6 → HOK σ1 (σ1.2 i) := by
    rw [hp]
    refine ⟨hi.1, hi.2.1, fun i h6 => ?_⟩
    by_cases hin : σ.2 i = σ.2 n
    · rw [hin]; exact hW.2.1
    · exact (hw_other hin hW.2.2).2 (hi.2.2 i h6)
  obtain ⟨h1, h2, h3, h4, h5⟩ := hi_N (show n + 1 ≤ 6 by omega) e hb1
  refine ⟨h1, ?_, fun q hq => ?_⟩
  · rw [hist_eq h2, List.range_succ, List.map_append, List.map_cons, List.map_nil]
    congr 1
    · apply List.map_congr_left
      intro i him
      have hin : i < n := List.mem_range.mp him
      rw [(h4 _).1, h3, hp, (hw_other (h2 := σ.2 i) (fun z => absurd (hi.2.1 i n (by omega) hn z) (by omega)) hW.2.2).1]
    · rw [(h4 _).1, h3, hp, hW.1]
  · rw [h5 q (fun z => hq (Or.inl z))]
    have h2n := hi.1 n hn
    refine hW.2.2.1 q (fun z => hq (Or.inr ?_)) (fun j hj => ⟨fun z => hq (Or.inr ?_), fun z => hq (Or.inr ?_)⟩)
    · rw [z]; exact ⟨Nat.le_refl 2, h2n⟩
    · rw [z]; exact ⟨Nat.zero_le 2, h2n⟩
    · rw [z]; exact ⟨(by decide : 1 ≤ 2), h2n⟩
