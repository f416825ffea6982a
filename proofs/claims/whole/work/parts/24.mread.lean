/-! THE MODEL'S READING of a text is the class's -/
def ltM (P : PV) : Nat → (Nat × Int32) × (Int32 × TV) → (Nat × Int32) × (Int32 × TV)
  | 0, q => q
  | k + 1, q => if ¬ q.1.2 = 0 then q else if ¬ P.2 q.1.1 = 44 then q else ltM P k (tkS P (q.1.1 + 1) q.2.1 q.2.2)
def finF (P : PV) (q : (Nat × Int32) × (Int32 × TV)) : Int32 := if q.2.1 < 0 then (if ¬ q.1.2 = 0 then nI q.1.1 else if P.1 ≤ q.1.1 then -6 else nI q.1.1) else q.2.1
theorem nlt_le {e : Int32} (h : ¬ e < 0) : 0 ≤ e := Int32.not_lt.mp h
theorem tk_ge {P : PV} {s : Nat} {e : Int32} {T : TV} (h : ¬ e < 0) : (tkS P s e T).2.1 = e := by
  rw [tkS]
  split
  · rfl
  · split
    · rfl
    · split
      · rfl
      · show (if _ then e else if 0 ≤ e then e else _) = e
        rw [if_pos (nlt_le h)]
        split <;> rfl
theorem lt_ge {P : PV} : ∀ (k : Nat) (q : (Nat × Int32) × (Int32 × TV)), ¬ q.2.1 < 0 → (ltM P k q).2.1 = q.2.1
  | 0, _, _ => rfl
  | k + 1, q, h => by
    rw [ltM]
    split
    · rfl
    · split
      · rfl
      · rw [lt_ge k _ (by rw [tk_ge h]; exact h), tk_ge h]
theorem lt_fin {P : PV} (k : Nat) (q : (Nat × Int32) × (Int32 × TV)) (h : ¬ q.2.1 < 0) : finF P (ltM P k q) = q.2.1 := by
  rw [finF, lt_ge k q h, if_neg h]
theorem lt_stop {P : PV} (k : Nat) {q : (Nat × Int32) × (Int32 × TV)} (h : ¬ q.1.2 = 0 ∨ ¬ P.2 q.1.1 = 44) : ltM P k q = q := by
  cases k with
  | zero => rfl
  | succ k =>
    rw [ltM]
    by_cases h1 : q.1.2 = 0
    · rw [if_neg (not_not_intro h1), if_pos (h.resolve_left (not_not_intro h1))]
    · rw [if_pos h1]
theorem eon_top {P : PV} (hz : ∀ i, P.1 ≤ i → P.2 i = 0) {s : Nat} (h : ¬ eonS P s = s) : eonS P s ≤ P.1 ∧ s < P.1 := by
  have hs : s < P.1 := by
    rcases Nat.lt_or_ge s P.1 with q | q
    · exact q
    · exact absurd (eon_no (by rw [hz s q]; rfl)) h
  refine ⟨?_, hs⟩
  rw [eonS]
  split
  · split
    · omega
    · split
      · omega
      · rename_i h3
        rcases Nat.lt_or_ge (s + 1) P.1 with q | q
        · omega
        · exact absurd (by rw [hz _ q]; rfl) h3
  · omega
theorem lt_rd {P : PV} (h60 : P.1 ≤ 60) (hz : ∀ i, P.1 ≤ i → P.2 i = 0) : ∀ (k s : Nat) (T : TV), 61 ≤ k + s →
    finF P (ltM P k (tkS P s (-6) T)) = (rdF P (k + 1) s T).1 ∧ ((rdF P (k + 1) s T).1 = -6 → (ltM P k (tkS P s (-6) T)).2.2 = (rdF P (k + 1) s T).2) := by
  have step : ∀ (k : Nat) (e1 : Nat) (T : TV), e1 ≤ P.1 → (∀ k' , k = k' + 1 → finF P (ltM P k' (tkS P (e1 + 1) (-6) T)) = (rdF P (k' + 1) (e1 + 1) T).1 ∧ ((rdF P (k' + 1) (e1 + 1) T).1 = -6 → (ltM P k' (tkS P (e1 + 1) (-6) T)).2.2 = (rdF P (k' + 1) (e1 + 1) T).2)) → (P.2 e1 = 44 → 1 ≤ k) →
      finF P (ltM P k ((e1, 0), (-6, T))) = (if ¬ e1 = P.1 then (if P.2 e1 = 44 then rdF P k (e1 + 1) T else (nI e1, T)) else (-6, T)).1 ∧ ((if ¬ e1 = P.1 then (if P.2 e1 = 44 then rdF P k (e1 + 1) T else (nI e1, T)) else (-6, T)).1 = -6 → (ltM P k ((e1, 0), (-6, T))).2.2 = (if ¬ e1 = P.1 then (if P.2 e1 = 44 then rdF P k (e1 + 1) T else (nI e1, T)) else (-6, T)).2) := by
    intro k e1 T he ih hk
    by_cases h1 : e1 = P.1
    · rw [if_neg (not_not_intro h1), lt_stop k (Or.inr (by show ¬ P.2 e1 = 44; rw [h1, hz _ (Nat.le_refl _)]; decide))]
      refine ⟨?_, fun _ => rfl⟩
      show (if (-6 : Int32) < 0 then (if ¬ (0 : Int32) = 0 then nI e1 else if P.1 ≤ e1 then -6 else nI e1) else -6) = -6
      rw [if_pos (by decide), if_neg (by decide), if_pos (by omega)]
    · rw [if_pos h1]
      by_cases h2 : P.2 e1 = 44
      · rw [if_pos h2]
        obtain ⟨k', rfl⟩ : ∃ k', k = k' + 1 := ⟨k - 1, by have := hk h2; omega⟩
        rw [ltM, if_neg (show ¬ ¬ (0 : Int32) = 0 by decide), if_neg (not_not_intro h2)]
        exact ih k' rfl
      · rw [if_neg h2, lt_stop k (Or.inr h2)]
        refine ⟨?_, fun _ => rfl⟩
        show (if (-6 : Int32) < 0 then (if ¬ (0 : Int32) = 0 then nI e1 else if P.1 ≤ e1 then -6 else nI e1) else -6) = nI e1
        rw [if_pos (by decide), if_neg (by decide), if_neg (by omega)]
  have wrong : ∀ (k s1 : Nat) (T : TV), finF P (ltM P k ((s1, 1), (-6, T))) = nI s1 ∧ (ltM P k ((s1, 1), (-6, T))).2.2 = T := by
    intro k s1 T
    rw [lt_stop k (Or.inl (show ¬ (1 : Int32) = 0 by decide))]
    refine ⟨?_, rfl⟩
    show (if (-6 : Int32) < 0 then (if ¬ (1 : Int32) = 0 then nI s1 else _) else _) = nI s1
    rw [if_pos (by decide), if_pos (by decide)]
  intro k
  induction k with
  | zero =>
    intro s T hk
    have h0 : eonS P s = s := by
      rcases Nat.decEq (eonS P s) s with q | q
      · have := (eon_top hz q).2; omega
      · exact q
    rw [tkS, if_pos h0, rdF, if_neg (not_not_intro h0)]
    exact ⟨(wrong 0 s T).1, fun _ => rfl⟩
  | succ k ih =>
    intro s T hk
    by_cases h0 : eonS P s = s
    · rw [tkS, if_pos h0, rdF, if_neg (not_not_intro h0)]
      exact ⟨(wrong _ s T).1, fun _ => (wrong _ s T).2⟩
    · have t0 := eon_top hz h0
      have l0 := eon_le P s
      have p44 : ∀ e1, P.2 e1 = 44 → 1 ≤ k + 1 := fun _ _ => by omega
      by_cases h1 : P.2 (eonS P s) = 45
      · by_cases h2 : eonS P (eonS P s + 1) = eonS P s + 1
        · rw [tkS, if_neg h0, if_neg (not_not_intro h1), if_pos h2, rdF, if_pos h0, if_neg (not_not_intro h1), if_pos h2]
          exact ⟨(wrong _ _ T).1, fun _ => (wrong _ _ T).2⟩
        · have t2 := eon_top hz h2
          have l2 := eon_le P (eonS P s + 1)
          by_cases h3 : numS P s (eonS P s) ≤ numS P (eonS P s + 1) (eonS P (eonS P s + 1))
          · rw [tkS, if_neg h0, if_neg (not_not_intro h1), if_neg h2, if_pos h3, rdF, if_pos h0, if_neg (not_not_intro h1), if_neg h2, if_pos h3]
            exact step (k + 1) _ _ t2.1 (fun k' hk' => by cases hk'; exact ih _ _ (by omega)) (p44 _)
          · rw [tkS, if_neg h0, if_neg (not_not_intro h1), if_neg h2, if_neg h3, if_neg (show ¬ (0 : Int32) ≤ -6 by decide), rdF, if_pos h0, if_neg (not_not_intro h1), if_neg h2, if_neg h3]
            have hpos : ¬ nI (eonS P s + 1) < 0 := nI_pos (by omega)
            refine ⟨?_, fun h => ?_⟩
            · exact lt_fin (k + 1) ((_, _), (nI (eonS P s + 1), _)) hpos
            · exact absurd (show nI (eonS P s + 1) = -6 from h) (fun z => hpos (by rw [z]; decide))
      · rw [tkS, if_neg h0, if_pos h1, rdF, if_pos h0, if_pos h1]
        exact step (k + 1) _ _ t0.1 (fun k' hk' => by cases hk'; exact ih _ _ (by omega)) (p44 _)
theorem tk_inv {P : PV} (hz : ∀ i, P.1 ≤ i → P.2 i = 0) (h60 : P.1 ≤ 60) {s : Nat} {e : Int32} {T : TV} (h : 2 * T.1 ≤ s) : 2 * (tkS P s e T).2.2.1 ≤ (tkS P s e T).1.1 + 1 ∧ (tkS P s e T).1.1 ≤ s + 5 := by
  have l0 := eon_le P s
  have l2 := eon_le P (eonS P s + 1)
  rw [tkS]
  by_cases h0 : eonS P s = s
  · rw [if_pos h0]
    exact ⟨by show 2 * T.1 ≤ s + 1; omega, by show s ≤ s + 5; omega⟩
  · have t0 := eon_top hz h0
    have hT : T.1 < 30 := by omega
    rw [if_neg h0]
    split
    · refine ⟨?_, by show eonS P s ≤ s + 5; omega⟩
      show 2 * (addP T _ _).1 ≤ eonS P s + 1
      rw [(addP_val hT).1]; omega
    · split
      · exact ⟨by show 2 * T.1 ≤ eonS P s + 1 + 1; omega, by show eonS P s + 1 ≤ s + 5; omega⟩
      · refine ⟨?_, by show eonS P (eonS P s + 1) ≤ s + 5; omega⟩
        show 2 * (addP T _ _).1 ≤ eonS P (eonS P s + 1) + 1
        rw [(addP_val hT).1]; omega
