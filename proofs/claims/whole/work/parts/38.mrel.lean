/-! THE MODEL holds what the class holds: its row, its past, its text -/
def FrM (σ τ : Sg) : Prop := (∀ q : Lo, q.1 < 8 → τ.1 q = σ.1 q) ∧ τ.2 = σ.2
theorem FrM.rf {σ : Sg} : FrM σ σ := ⟨fun _ _ => rfl, rfl⟩
theorem FrM.tr {σ σ1 σ2 : Sg} (a : FrM σ σ1) (b : FrM σ1 σ2) : FrM σ σ2 := ⟨fun q h => (b.1 q h).trans (a.1 q h), b.2.trans a.2⟩
theorem FrM.sa {σ : Sg} {f : Nat → Int32} : FrM σ (sa σ f) := ⟨fun q h => sa_ne σ f (fun e => by rw [e] at h; exact absurd h (by decide)), rfl⟩
theorem FrM.up {σ : Sg} {q : Lo} {k : Nat} {v : Int32} (hq : 8 ≤ q.1) : FrM σ (upd2 σ.1 q k v, σ.2) := ⟨fun p h => upd2_ne σ.1 (q := q) (p := p) k v (fun e => by rw [e] at h; omega), rfl⟩
theorem ED_congr {S : HA} {f g : Nat → Int32} (h : ED S f) (he : ∀ k, k < 162 → g k = f k) : ED S g := by
  obtain ⟨⟨hb0, hb1, hb2, hb3⟩, ⟨hs0, hs4, hs5, hs6⟩, ⟨hc1, hc2, hc3, hc7⟩, hg, ho, ha, hk, hw⟩ := h
  refine ⟨⟨hb0, hb1, hb2, hb3⟩, ⟨by rw [he 0 (by decide)]; exact hs0, by rw [he 4 (by decide)]; exact hs4, by rw [he 5 (by decide)]; exact hs5, by rw [he 6 (by decide)]; exact hs6⟩, ⟨by rw [he 1 (by decide)]; exact hc1, by rw [he 2 (by decide)]; exact hc2, by rw [he 3 (by decide)]; exact hc3, by rw [he 7 (by decide)]; exact hc7⟩, fun j hj => by rw [he _ (by omega)]; exact hg j hj, fun r hr => ?_, fun a c h1 h2 => ?_, fun t c h1 h2 => ?_, fun s c h1 h2 => ?_⟩
  · have hm : ∀ c, c < 6 → mo g r c = mo f r c := fun c hc => he (12 + 6 * r + c) (by omega)
    rw [hm 0 (by decide), hm 1 (by decide), hm 2 (by decide), hm 3 (by decide), hm 4 (by decide), hm 5 (by decide)]
    exact ho r hr
  · exact (he (60 + 5 * a + c) (by omega)).trans (ha a c h1 h2)
  · exact (he (90 + 5 * t + c) (by omega)).trans (hk t c h1 h2)
  · exact (he (150 + 2 * s + c) (by omega)).trans (hw s c h1 h2)
def Pa_ (Hs : List HA) (n : Nat) (τ : Sg) : Prop := ∀ i T, Hs[i]? = some T → ED T (fun k => τ.1 (9, 2, 0) (162 * i + k)) ∧ V T n
def Mq_ (S : HA) (Hs : List HA) (P : PV) (n : Nat) (f : Nat → Int32) (τ : Sg) : Prop := ED S f ∧ V S n ∧ (τ.1 (8, 0, 0) 3 = nI Hs.length ∧ Hs.length ≤ 6) ∧ Pa_ Hs n τ ∧ τ.1 (8, 0, 0) 5 = nI P.1 ∧ PTX P τ
def Mp_ (r : Int32 × XS) (n : Nat) (σ : Sg) : Option AV → Sg → Prop := fun o σ' => o = some (vI r.1) ∧ ∃ τ f', σ' = sa τ f' ∧ Mq_ r.2.1 r.2.2.1 r.2.2.2 (n + 720) f' τ ∧ FrM σ τ
theorem Mq_.le {S : HA} {Hs : List HA} {P : PV} {n m : Nat} {f : Nat → Int32} {τ : Sg} (h : Mq_ S Hs P n f τ) (hm : n ≤ m) : Mq_ S Hs P m f τ := ⟨h.1, h.2.1.le hm, h.2.2.1, fun i T hT => ⟨(h.2.2.2.1 i T hT).1, (h.2.2.2.1 i T hT).2.le hm⟩, h.2.2.2.2⟩
-- a state that differs in places of its own
theorem Mq_.fr {S : HA} {Hs : List HA} {P : PV} {n : Nat} {f : Nat → Int32} {σ τ : Sg} (h : Mq_ S Hs P n f σ) (h3 : τ.1 (8, 0, 0) 3 = σ.1 (8, 0, 0) 3) (h5 : τ.1 (8, 0, 0) 5 = σ.1 (8, 0, 0) 5) (h92 : τ.1 (9, 2, 0) = σ.1 (9, 2, 0)) (h93 : τ.1 (9, 3, 0) = σ.1 (9, 3, 0)) : Mq_ S Hs P n f τ := by
  obtain ⟨a, b, ⟨c1, c2⟩, d, e, g⟩ := h
  refine ⟨a, b, ⟨h3.trans c1, c2⟩, fun i T hT => ?_, h5.trans e, ptx_fr h93 g⟩
  rw [h92]
  exact d i T hT
theorem Mq_.frR {S : HA} {Hs : List HA} {P : PV} {n : Nat} {f : Nat → Int32} {σ τ : Sg} (h : Mq_ S Hs P n f σ) (hF : FrR σ τ) : Mq_ S Hs P n f τ :=
  h.fr (hF.2.2 3 (by decide) (by decide) (by decide) (by decide)) (hF.2.2 5 (by decide) (by decide) (by decide) (by decide)) (hF.1 _ (by simp) (by simp)) (hF.1 _ (by simp) (by simp))
theorem FrR.m {σ τ : Sg} (hF : FrR σ τ) : FrM σ τ := ⟨fun q hq => hF.1 q (fun e => by rw [e] at hq; exact absurd hq (by decide)) (fun e => by rw [e] at hq; exact absurd hq (by decide)), hF.2.1⟩
def Km_ (S : HA) (Hs : List HA) (P : PV) (n : Nat) (σ τ : Sg) : Prop := FrM σ τ ∧ ∀ (S' : HA) (f' : Nat → Int32) (m : Nat), n ≤ m → ED S' f' → V S' m → Mq_ S' (keepL Hs S) P m f' τ
theorem keepL_len {Hs : List HA} {S : HA} (h : Hs.length ≤ 6) : (keepL Hs S).length = if Hs.length < 6 then Hs.length + 1 else 6 := by
  rw [keepL, List.length_append, List.length_singleton]
  by_cases q : Hs.length < 6
  · rw [if_pos q, if_pos q]
  · rw [if_neg q, if_neg q, List.length_tail]; omega
theorem keep_ok {S : HA} {Hs : List HA} {P : PV} {n : Nat} {f : Nat → Int32} {σ τ : Sg} (h : Mq_ S Hs P n f σ) (k : KP Hs.length (sa σ f) f τ) : Km_ S Hs P n σ τ ∧ τ.1 (9, 0, 0) = f ∧ (∀ p, p ≠ (9, 2, 0) → p ≠ (8, 0, 0) → p ≠ (9, 0, 0) → τ.1 p = σ.1 p) ∧ (∀ k, k ≠ 3 → τ.1 (8, 0, 0) k = σ.1 (8, 0, 0) k) := by
  obtain ⟨hE, hV, ⟨h3, h6⟩, hA, h5, hP⟩ := h
  obtain ⟨k1, k2, k3, k4, k5, k6⟩ := k
  have s8 : (sa σ f).1 (8, 0, 0) = σ.1 (8, 0, 0) := sa_ne σ f (by simp)
  have s92 : (sa σ f).1 (9, 2, 0) = σ.1 (9, 2, 0) := sa_ne σ f (by simp)
  have hp : ∀ p, p ≠ (9, 2, 0) → p ≠ (8, 0, 0) → p ≠ (9, 0, 0) → τ.1 p = σ.1 p := fun p p1 p2 p3 => (k2 p p1 p2).trans (sa_ne σ f p3)
  have h8 : ∀ k, k ≠ 3 → τ.1 (8, 0, 0) k = σ.1 (8, 0, 0) k := fun k hk => (k3 k hk).trans (by rw [s8])
  refine ⟨⟨⟨fun q hq => hp q (fun e => by rw [e] at hq; exact absurd hq (by decide)) (fun e => by rw [e] at hq; exact absurd hq (by decide)) (fun e => by rw [e] at hq; exact absurd hq (by decide)), k1⟩, fun S' f' m hm hE' hV' => ⟨hE', hV', ⟨by rw [k4, keepL_len h6], by rw [keepL_len h6]; split <;> omega⟩, fun i T hT => ?_, (h8 5 (by decide)).trans h5, ptx_fr (hp _ (by simp) (by simp) (by simp)) hP⟩⟩, (k2 _ (by simp) (by simp)).trans (sa_at σ f), hp, h8⟩
  rw [keepL] at hT
  by_cases q : Hs.length < 6
  · simp only [if_pos q] at hT k5 k6
    rcases Nat.lt_trichotomy i Hs.length with c | c | c
    · rw [List.getElem?_append_left c] at hT
      refine ⟨ED_congr (hA i T hT).1 (fun k hk => ?_), (hA i T hT).2.le hm⟩
      show τ.1 (9, 2, 0) (162 * i + k) = _
      rw [k5 i k c hk, s92]
    · subst c
      rw [List.getElem?_append_right (Nat.le_refl _), Nat.sub_self] at hT
      have e : S = T := by simpa using hT
      subst e
      exact ⟨ED_congr hE (fun k hk => k6 k hk), hV.le hm⟩
    · rw [List.getElem?_append_right (by omega), List.getElem?_eq_none (by rw [List.length_singleton]; omega)] at hT
      cases hT
  · simp only [if_neg q] at hT k5 k6
    have ht : Hs.tail.length = 5 := by rw [List.length_tail]; omega
    rcases Nat.lt_trichotomy i 5 with c | c | c
    · rw [List.getElem?_append_left (by omega), List.getElem?_tail] at hT
      refine ⟨ED_congr (hA (i + 1) T hT).1 (fun k hk => ?_), (hA (i + 1) T hT).2.le hm⟩
      show τ.1 (9, 2, 0) (162 * i + k) = _
      rw [k5 i k c hk, s92]
    · subst c
      rw [List.getElem?_append_right (by omega), ht, Nat.sub_self] at hT
      have e : S = T := by simpa using hT
      subst e
      exact ⟨ED_congr hE (fun k hk => k6 k hk), hV.le hm⟩
    · rw [List.getElem?_append_right (by omega), List.getElem?_eq_none (by rw [List.length_singleton]; omega)] at hT
      cases hT
theorem con_keep {S : HA} {Hs : List HA} {P : PV} {n : Nat} {f : Nat → Int32} {σ : Sg} (l : Launch) (h : Mq_ S Hs P n f σ) : Con l 0 yX5_keep cX5_keep 2 none [vR (8, 0, 0)] (sa σ f) (fun o σ' => o = none ∧ ∃ τ, σ' = sa τ f ∧ Km_ S Hs P n σ τ) := by
  refine con_mono (c_X5_keep l (σ := sa σ f) (n := Hs.length) ?_ h.2.2.1.2) (fun o σ' hp => ⟨hp.1, σ', ?_, ?_⟩)
  · rw [sa_ne σ f (by simp)]; exact h.2.2.1.1
  · have hk := hp.2
    rw [sa_at] at hk
    have e := (keep_ok h hk).2.1
    have s := sa_self σ'
    rw [e] at s
    exact s.symm
  · have hk := hp.2
    rw [sa_at] at hk
    exact (keep_ok h hk).1
-- numbers in a range
theorem in_nat {x : Int32} {a b : Nat} (ha : a < 2 ^ 31) (hb : b < 2 ^ 31) (h : ¬ isInS x (nI a) (nI b) = 0) : ∃ k, a ≤ k ∧ k ≤ b ∧ x = nI k := by
  unfold isInS at h
  by_cases q : x < nI a
  · rw [if_pos q] at h; exact absurd rfl h
  · rw [if_neg q] at h
    by_cases q2 : nI b < x
    · rw [if_pos q2] at h; exact absurd rfl h
    · have h0 : ¬ x < 0 := by
        intro z
        apply q
        have := Int32.lt_iff_toInt_lt.mp z
        rw [Int32.lt_iff_toInt_lt, nI_toInt ha]
        have e0 : (0 : Int32).toInt = 0 := rfl
        omega
      obtain ⟨j, hj, rfl⟩ := nI_of h0
      rw [nI_ltI hj ha] at q
      rw [nI_ltI hb hj] at q2
      exact ⟨j, by omega, by omega, rfl⟩
theorem away_eq {S : HA} {f : Nat → Int32} {n r : Nat} (hE : ED S f) (hV : V S n) (hr : r < sz S 0) : awayM f r = awayS S (nI r) := by
  obtain ⟨w, hw9, hw⟩ := hV.1.2.2.2
  have h8 := hE.1.1
  rw [awayM, awayS, cl1 (by omega), cl2 (by omega), hE.2.1.1, hw]
  exact (hE.2.2.2.2.1 r hr).2.2.2.2 w hw9
theorem deepM_eq {S : HA} {f : Nat → Int32} (hE : ED S f) {a : Nat} (ha : a < sz S 1) : deepM f a = deepS S (nI a) := deep_eq ⟨hE.2.2.2.2.2.1, hE.2.1.1, hE.2.2.2.1 2 (by decide), hE.2.2.2.1 3 (by decide)⟩ hE.1.2.1 ha
theorem dueM_eq {S : HA} {f : Nat → Int32} {n : Nat} (hE : ED S f) (hV : V S n) {a : Nat} (ha : a < sz S 1) : dueM f a = dueS S (nI a) := due_eq ⟨hE.2.2.2.2.2.1, hE.2.1.1, hE.2.2.2.1 2 (by decide), hE.2.2.2.1 3 (by decide)⟩ hV.2.2.1 hE.1.2.1 ha
theorem per_ne {S : HA} {f : Nat → Int32} {n : Nat} (hE : ED S f) (hV : V S n) : ∀ j, j < sz S 1 → ¬ ma f j 1 = 0 := fun j hj => by
  obtain ⟨-, p, p1, p2, p3⟩ := hV.2.2.1.1 j hj
  rw [hE.2.2.2.2.2.1 j 1 hj (by decide), p3]
  exact fun z => absurd ((nI_eq (b := 0) (by omega) (by decide)).mp z) (by omega)
theorem wt_ne {S : HA} {f : Nat → Int32} {n : Nat} (hE : ED S f) (hV : V S n) : ∀ r, r < sz S 0 → ¬ mo f r 0 = 0 := fun r hr => by
  obtain ⟨⟨w, w1, w2, w3⟩, -⟩ := hV.2.1 r hr
  rw [(hE.2.2.2.2.1 r hr).1, w3]
  exact fun z => absurd ((nI_eq (b := 0) (by omega) (by decide)).mp z) (by omega)
theorem full_eq {S : HA} {f : Nat → Int32} (hE : ED S f) {j : Nat} (hj : j = 0 ∨ j = 1 ∨ j = 3) : sz S j ≤ mst j := by
  obtain ⟨h0, h1, h2, h3⟩ := hE.1
  rcases hj with q | q | q <;> rw [q]
  · exact h0
  · exact h1
  · exact h3
theorem set_ex {s v : Int32} (h : ¬ setOkS s v = 0) : ∃ j, j < 4 ∧ s = nI j ∧ (j = 2 → ∃ d, 2 ≤ d ∧ d ≤ 6 ∧ v = nI d) := by
  unfold setOkS at h
  rcases pk_ix s (n := 4) (by decide) with z | z | ⟨j, hj, rfl⟩
  · rw [sw_lo z] at h; exact absurd rfl h
  · rw [sw_hi z] at h; exact absurd rfl h
  · refine ⟨j, hj, rfl, fun e => ?_⟩
    subst e
    rw [sw_in (by decide) hj] at h
    exact in_nat (a := 2) (b := 6) (by decide) (by decide) h
theorem set_wr {S : HA} {j : Nat} {v : Int32} (h4 : sz S 4 = 1) (hj : j < 4) : wr S 4 0 (nI j) v = Wc S 4 0 j v := wr_n (r := 0) (by rw [h4]; decide) hj (by rw [h4]; decide)
theorem set_cl {S : HA} {f : Nat → Int32} (hE : ED S f) {j : Nat} (hj : j < 4) : cl S 4 0 (nI j) = f (8 + j) := (cl_n (r := 0) (by decide) (by omega)).trans (hE.2.2.2.1 j hj).symm
