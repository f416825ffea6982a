/-! FINISHING a task, cleaning, dropping swaps: the same data, and what holds still holds -/
def clN (S : HA) (a : Nat) : HA := Wc (Wc S 1 a 3 0) 1 a 4 (ce S 1 a 4 + 1)
theorem clean_eq {S : HA} {a : Nat} (ha : a < sz S 1) (hb : sz S 1 ≤ 6) : cleanS S (nI a) = clN S a := by
  rw [cleanS, wc3 ha (by decide) (by omega), inc4 (by rw [sz_W]; exact ha) (by decide) (by rw [sz_W]; omega), ce_W_c (by decide)]
  rfl
theorem e_clean {S : HA} {f : Nat → Int32} {a : Nat} (h : ED S f) (ha : a < sz S 1) : ED (clN S a) (cleanM f a) := by
  have e : ma (sA f a 3 0) a 4 = ce S 1 a 4 := by rw [ma_sA_ne (by decide) (by decide) (by omega)]; exact h.2.2.2.2.2.1 a 4 ha (by decide)
  rw [cleanM, e]
  exact e_sA (e_sA h ha (by decide) 0) (by rw [sz_W]; exact ha) (by decide) _
def VB (S : HA) (n : Nat) : Prop := VH S ∧ VO S n ∧ VA S ∧ VK S ∧ VT S ∧ VC S
theorem V.b {S : HA} {n : Nat} (h : V S n) : VB S n := ⟨h.1, h.2.1, h.2.2.1, h.2.2.2.1, h.2.2.2.2.1, h.2.2.2.2.2.2⟩
theorem VB.v {S : HA} {n : Nat} (h : VB S n) (hw : VW S) : V S n := ⟨h.1, h.2.1, h.2.2.1, h.2.2.2.1, h.2.2.2.2.1, hw, h.2.2.2.2.2⟩
theorem V.w {S : HA} {n : Nat} (h : V S n) : VW S := h.2.2.2.2.2.1
theorem vc_W {S : HA} {j r c : Nat} {v : Int32} (h : VC S) (hr : r < sz S j) : VC (Wc S j r c v) := by
  intro j' r' c' hj hr'
  rw [sz_W] at hr'
  by_cases q : j' = j
  · subst q
    rw [ce_W_r (by omega)]
    exact h j' r' c' hj hr'
  · rw [ce_W_ne q]
    exact h j' r' c' hj hr'
theorem tm_of {S S' : HA} (h : ∀ t c, ce S' 2 t c = ce S 2 t c) (r t : Nat) : tmN S' r t = tmN S r t := by
  unfold tmN
  rw [h, h, h]
theorem os_of {S S' : HA} (h : ∀ t c, ce S' 2 t c = ce S 2 t c) (r n : Nat) : osN S' r n = osN S r n := osN_congr n (fun t _ => tm_of h r t)
-- a change of the areas' dirt and cleanings, of the swaps, of the scalars 7 and 8
theorem vb_of {S S' : HA} {n : Nat} (h : VB S n) (h0 : ∀ r c, ce S' 0 r c = ce S 0 r c) (h1 : ∀ a c, c < 2 → ce S' 1 a c = ce S 1 a c) (h2 : ∀ t c, ce S' 2 t c = ce S 2 t c) (h4 : ∀ r c, ce S' 4 r c = ce S 4 r c)
    (s0 : sz S' 0 = sz S 0) (s1 : sz S' 1 = sz S 1) (s2 : sz S' 2 = sz S 2) (s3 : sz S' 3 ≤ sz S 3) (s4 : sz S' 4 = sz S 4) (f5 : S'.2 5 = S.2 5) (f6 : S'.2 6 = S.2 6) (hc : VC S') : VB S' n := by
  obtain ⟨⟨a1, ⟨b0, b1, b2, b3⟩, a3, a4⟩, a5, a6, a7, a8, a9⟩ := h
  refine ⟨⟨inv_same a1 f6 s2, ⟨by rw [s0]; exact b0, by rw [s1]; exact b1, by rw [s2]; exact b2, by omega⟩, by rw [s4]; exact a3, by rw [f5]; exact a4⟩, ?_, ⟨?_, by rw [h4]; exact a6.2⟩, ?_, ⟨?_, ?_⟩, hc⟩
  · intro r hr
    rw [s0] at hr
    rw [s2, os_of h2, h0, h0, h0, h0]
    exact a5 r hr
  · intro a ha
    rw [s1] at ha
    rw [h1 a 0 (by decide), h1 a 1 (by decide)]
    exact a6.1 a ha
  · intro t ht
    rw [s2] at ht
    rw [h2, h2, h2, h2, h2, s0, s1]
    exact a7 t ht
  · intro t u
    rw [h2, h2, h2, h2, s2]
    exact a8.1 t u
  · intro t ht
    rw [s2] at ht ⊢
    rw [h2, h2, h2]
    intro h
    rcases a8.2 t ht h with q | ⟨u, q1, q2⟩
    · exact Or.inl q
    · exact Or.inr ⟨u, q1, by rw [h2]; exact q2⟩
theorem vb_clean {S : HA} {n a : Nat} (h : VB S n) (ha : a < sz S 1) : VB (clN S a) n := by
  have n01 : (0 : Nat) ≠ 1 := by decide
  refine vb_of h (fun r c => by rw [clN, ce_W_ne (by decide), ce_W_ne (by decide)]) (fun a' c hc => by rw [clN, ce_W_c (by omega), ce_W_c (by omega)]) (fun r c => by rw [clN, ce_W_ne (by decide), ce_W_ne (by decide)]) (fun r c => by rw [clN, ce_W_ne (by decide), ce_W_ne (by decide)]) (by rw [clN, sz_W, sz_W]) (by rw [clN, sz_W, sz_W]) (by rw [clN, sz_W, sz_W]) (by rw [clN, sz_W, sz_W]; exact Nat.le_refl _) (by rw [clN, sz_W, sz_W]) rfl rfl ?_
  exact vc_W (vc_W h.2.2.2.2.2 ha) (by rw [sz_W]; exact ha)
theorem dr_all {S : HA} {n t : Nat} (h : VB S n) : (sz (dropS S (nI t)) 3 ≤ sz S 3) ∧ (∀ r, sz (dropS S (nI t)) 3 ≤ r → ∀ c, ce (dropS S (nI t)) 3 r c = 0) ∧ ∀ s, s < sz (dropS S (nI t)) 3 → (ce (dropS S (nI t)) 3 s 0 ≠ nI t ∧ ce (dropS S (nI t)) 3 s 1 ≠ nI t) ∧ ∃ s', s' < sz S 3 ∧ ∀ c, ce (dropS S (nI t)) 3 s c = ce S 3 s' c := by
  have := dr_row (t := nI t) (sz S 3) (S.1 3) (Nat.le_refl _) (fun r hr c => h.2.2.2.2.2 3 r c (by decide) hr) (fun s h1 h2 => absurd h1 (by have : (S.1 3).1 = sz S 3 := rfl; omega)) (by have := h.1.2.1.2.2.2; have e : (S.1 3).1 = sz S 3 := rfl; omega)
  unfold dropS
  rw [sz_T]
  simp only [ce_T]
  exact this
theorem vb_drop {S : HA} {n t : Nat} (h : VB S n) : VB (dropS S (nI t)) n := by
  obtain ⟨d1, d2, d3⟩ := dr_all (t := t) h
  refine vb_of h (fun r c => ce_T_ne (by decide)) (fun a c _ => ce_T_ne (by decide)) (fun r c => ce_T_ne (by decide)) (fun r c => ce_T_ne (by decide)) (sz_T_ne (by decide)) (sz_T_ne (by decide)) (sz_T_ne (by decide)) d1 (sz_T_ne (by decide)) rfl rfl ?_
  intro j r c hj hr
  by_cases q : j = 3
  · subst q; exact d2 r hr c
  · rw [dropS, ce_T_ne q]
    rw [dropS, sz_T_ne q] at hr
    exact h.2.2.2.2.2 j r c hj hr
theorem vb_F {S : HA} {n k : Nat} {x : Int32} (h : VB S n) (h5 : k ≠ 5) (h6 : k ≠ 6) : VB (setF S k x) n :=
  vb_of h (fun _ _ => rfl) (fun _ _ _ => rfl) (fun _ _ => rfl) (fun _ _ => rfl) rfl rfl rfl (Nat.le_refl _) rfl (F_ne (Ne.symm h5)) (F_ne (Ne.symm h6)) h.2.2.2.2.2
theorem nI_sub {m e : Nat} (h : e ≤ m) : nI m + -(nI e) = nI (m - e) := by
  obtain ⟨d, rfl⟩ : ∃ d, m = d + e := ⟨m - e, by omega⟩
  rw [Nat.add_sub_cancel, ← nI_add]
  grind
def fin3 (S : HA) (t r : Nat) : HA := Wc (Wc (Wc S 2 t 3 1) 0 r 6 (ce S 0 r 6 + -(ce S 2 t 2))) 0 r 3 (ce S 0 r 3 + ce S 2 t 2)
theorem vb_fin3 {S : HA} {n t r : Nat} (h : VB S n) (ht : t < sz S 2) (ho : ce S 2 t 3 = 0) (hr : r < sz S 0) (hw : ce S 2 t 1 = nI r) : VB (fin3 S t r) n := by
  obtain ⟨⟨a1, ⟨b0, b1, b2, b3⟩, a3, a4⟩, a5, a6, a7, a8, a9⟩ := h
  have s : ∀ j, sz (fin3 S t r) j = sz S j := fun j => by rw [fin3, sz_W, sz_W, sz_W]
  have c1 : ∀ j x c, j ≠ 0 → j ≠ 2 → ce (fin3 S t r) j x c = ce S j x c := fun j x c h0 h2 => by rw [fin3, ce_W_ne h0, ce_W_ne h0, ce_W_ne h2]
  have c2 : ∀ x c, c ≠ 3 → ce (fin3 S t r) 2 x c = ce S 2 x c := fun x c h => by rw [fin3, ce_W_ne (by decide), ce_W_ne (by decide), ce_W_c h]
  have c23 : ∀ x, ce (fin3 S t r) 2 x 3 = if x = t then 1 else ce S 2 x 3 := fun x => by
    rw [fin3, ce_W_ne (by decide), ce_W_ne (by decide), ce_W]
    by_cases q : x = t
    · rw [if_pos ⟨q, rfl⟩, if_pos q]
    · rw [if_neg (fun z => q z.1), if_neg q]
  have c0 : ∀ x c, c ≠ 3 → c ≠ 6 → ce (fin3 S t r) 0 x c = ce S 0 x c := fun x c h3 h6 => by rw [fin3, ce_W_c h3, ce_W_c h6, ce_W_ne (by decide)]
  have c03 : ∀ x, ce (fin3 S t r) 0 x 3 = if x = r then ce S 0 r 3 + ce S 2 t 2 else ce S 0 x 3 := fun x => by
    rw [fin3, ce_W]
    by_cases q : x = r
    · rw [if_pos ⟨q, rfl⟩, if_pos q]
    · rw [if_neg (fun z => q z.1), if_neg q, ce_W_r q, ce_W_ne (by decide)]
  have c06 : ∀ x, ce (fin3 S t r) 0 x 6 = if x = r then ce S 0 r 6 + -(ce S 2 t 2) else ce S 0 x 6 := fun x => by
    rw [fin3, ce_W_c (by decide), ce_W]
    by_cases q : x = r
    · rw [if_pos ⟨q, rfl⟩, if_pos q]
    · rw [if_neg (fun z => q z.1), if_neg q, ce_W_ne (by decide)]
  obtain ⟨-, -, ⟨e, he, hce⟩, -, -⟩ := a7 t ht
  have tm : ∀ x u, u ≠ t → tmN (fin3 S t r) x u = tmN S x u := fun x u hu => by
    unfold tmN
    rw [c2 u 1 (by decide), c2 u 2 (by decide), c23, if_neg hu]
  have tm1 : ∀ x, tmN (fin3 S t r) x t = 0 := fun x => by
    unfold tmN
    rw [c23, if_pos rfl, if_neg (fun z => absurd z.2 (by decide))]
  have tm0 : ∀ x, x < sz S 0 → tmN S x t = if x = r then e else 0 := fun x hx => by
    unfold tmN
    rw [hw, ho, hce]
    by_cases q : x = r
    · rw [if_pos ⟨by rw [q], rfl⟩, if_pos q, nI_clamp (by omega)]
    · rw [if_neg (fun z => q ((nI_eq (by omega) (by omega)).mp z.1).symm), if_neg q]
  have os : ∀ x, x < sz S 0 → osN (fin3 S t r) x (sz S 2) + (if x = r then e else 0) = osN S x (sz S 2) := fun x hx => by
    have := osN_one (S := S) (S' := fin3 S t r) (r := x) (sz S 2) ht (fun u _ hu => tm x u hu)
    rw [tm1, tm0 x hx] at this
    omega
  refine ⟨⟨inv_same a1 rfl (s 2), ⟨by rw [s]; exact b0, by rw [s]; exact b1, by rw [s]; exact b2, by rw [s]; exact b3⟩, by rw [s]; exact a3, a4⟩, ?_, ⟨fun a ha => ?_, by rw [c1 4 0 2 (by decide) (by decide)]; exact a6.2⟩, fun u hu => ?_, ⟨fun u u' h1 h2 => ?_, fun u hu => ?_⟩, ?_⟩
  · intro x hx
    rw [s] at hx
    obtain ⟨h1, ⟨k, h2, h3⟩, h4, h6⟩ := a5 x hx
    have ox := os x hx
    rw [s, c0 x 0 (by decide) (by decide), c0 x 4 (by decide) (by decide), c03, c06]
    by_cases q : x = r
    · subst q
      rw [if_pos rfl] at ox
      rw [if_pos rfl, if_pos rfl, h3, h6, hce]
      exact ⟨h1, ⟨k + e, by omega, nI_add _ _⟩, h4, by rw [nI_sub (by omega), ← ox, Nat.add_sub_cancel]⟩
    · rw [if_neg q] at ox
      rw [if_neg q, if_neg q]
      exact ⟨h1, ⟨k, by omega, h3⟩, h4, by rw [h6, ← ox]; rfl⟩
  · rw [s] at ha
    rw [c1 1 a 0 (by decide) (by decide), c1 1 a 1 (by decide) (by decide)]
    exact a6.1 a ha
  · rw [s] at hu
    obtain ⟨k0, k1, k2, k3, k4⟩ := a7 u hu
    rw [c2 u 0 (by decide), c2 u 1 (by decide), c2 u 2 (by decide), c2 u 4 (by decide), c23, s, s]
    refine ⟨k0, k1, k2, ?_, k4⟩
    split
    · exact Or.inr rfl
    · exact k3
  · rw [s] at h2
    rw [c2 u 0 (by decide), c2 u' 0 (by decide), c2 u 4 (by decide), c2 u' 4 (by decide)]
    exact a8.1 u u' h1 h2
  · rw [s] at hu ⊢
    rw [c2 u 4 (by decide), c2 (u + 1) 0 (by decide), c2 u 0 (by decide)]
    intro hd
    rcases a8.2 u hu hd with q | ⟨u', q1, q2⟩
    · exact Or.inl q
    · exact Or.inr ⟨u', q1, by rw [c2 u' 0 (by decide)]; exact q2⟩
  · exact vc_W (vc_W (vc_W a9 ht) (by rw [sz_W]; exact hr)) (by rw [sz_W, sz_W]; exact hr)
-- whether a task is the last one of its area
theorem last_iff {f : Nat → Int32} {t : Nat} (ht : t < 2 ^ 31) : ∀ n, n < 2 ^ 31 → (lastL f t n = 0 ↔ ∃ u, u < n ∧ u ≠ t ∧ mk f u 0 = mk f t 0 ∧ ¬ mk f u 3 = 1)
  | 0, _ => ⟨fun h => absurd h (show ¬ (1 : Int32) = 0 by decide), fun ⟨u, h, _⟩ => absurd h (Nat.not_lt_zero _)⟩
  | n + 1, hn => by
    have ih := last_iff (f := f) ht n (by omega)
    rw [lastL]
    by_cases h0 : lastL f t n = 0
    · rw [if_pos h0]
      obtain ⟨u, h1, h2⟩ := ih.mp h0
      exact ⟨fun _ => ⟨u, by omega, h2⟩, fun _ => rfl⟩
    · rw [if_neg h0]
      have hno : ∀ u, u < n → u ≠ t → mk f u 0 = mk f t 0 → mk f u 3 = 1 := fun u h1 h2 h3 => by
        by_cases q : mk f u 3 = 1
        · exact q
        · exact absurd (ih.mpr ⟨u, h1, h2, h3, q⟩) h0
      have hlast : (∃ u, u < n + 1 ∧ u ≠ t ∧ mk f u 0 = mk f t 0 ∧ ¬ mk f u 3 = 1) ↔ (n ≠ t ∧ mk f n 0 = mk f t 0 ∧ ¬ mk f n 3 = 1) := by
        constructor
        · rintro ⟨u, h1, h2, h3, h4⟩
          by_cases q : u = n
          · subst q; exact ⟨h2, h3, h4⟩
          · exact absurd (hno u (by omega) h2 h3) h4
        · intro h; exact ⟨n, by omega, h⟩
      rw [hlast]
      by_cases h1e : nI n = nI t
      · rw [if_pos h1e]; exact ⟨fun h => absurd h (by decide), fun h => absurd ((nI_eq (by omega) ht).mp h1e) h.1⟩
      · have h1 : n ≠ t := fun q => h1e (by rw [q])
        rw [if_neg h1e]
        by_cases h2 : mk f n 0 = mk f t 0
        · rw [if_neg (not_not_intro h2)]
          by_cases h3 : mk f n 3 = 1
          · rw [if_neg (not_not_intro h3)]; exact ⟨fun h => absurd h (by decide), fun h => absurd h3 h.2.2⟩
          · rw [if_pos h3]; exact ⟨fun _ => ⟨h1, h2, h3⟩, fun _ => rfl⟩
        · rw [if_pos h2]; exact ⟨fun h => absurd h (by decide), fun h => absurd h.2.1 h2⟩
theorem open_n {S : HA} {u : Nat} (hs : sz S 2 < 2 ^ 31) (h : u < sz S 2) : openS S (nI u) = if ce S 2 u 3 = 0 then 1 else 0 := by
  rw [openS, hasT_in (vp_in_nI h hs), if_neg (by decide), cl3 (by omega)]
  by_cases q : ce S 2 u 3 = 0
  · rw [if_neg (not_not_intro q), if_pos q]
  · rw [if_pos q, if_neg q]
theorem twin_last {S : HA} {f : Nat → Int32} {t : Nat} (hE : ED S f) (hT : VT S) (hK : VK S) (ht : t < sz S 2) : lastL f t (sz S 2) = 0 ↔ ¬ twinOpenS S (nI t) = 0 := by
  have h12 := hE.1.2.2.1
  have hk := hE.2.2.2.2.2.2.1
  rw [last_iff (by omega) _ (by omega)]
  have area : ∀ u, u < sz S 2 → mk f u 0 = ce S 2 u 0 := fun u hu => hk u 0 hu (by decide)
  have dn : ∀ u, u < sz S 2 → mk f u 3 = ce S 2 u 3 := fun u hu => hk u 3 hu (by decide)
  have op : ∀ u, u < sz S 2 → (¬ ce S 2 u 3 = 1 ↔ ¬ openS S (nI u) = 0) := fun u hu => by
    rw [open_n (by omega) hu]
    rcases (hK u hu).2.2.2.1 with q | q
    · rw [q, if_pos rfl]; decide
    · rw [q, if_neg (by decide)]; decide
  have one : ∀ u0, u0 < sz S 2 → u0 ≠ t → ce S 2 u0 0 = ce S 2 t 0 → (∀ u, u < sz S 2 → u ≠ t → ce S 2 u 0 = ce S 2 t 0 → u = u0) → ((∃ u, u < sz S 2 ∧ u ≠ t ∧ mk f u 0 = mk f t 0 ∧ ¬ mk f u 3 = 1) ↔ ¬ openS S (nI u0) = 0) := by
    intro u0 h1 h2 h3 h4
    rw [← op u0 h1]
    constructor
    · rintro ⟨u, g1, g2, g3, g4⟩
      rw [area u g1, area t ht] at g3
      rw [dn u g1, h4 u g1 g2 g3] at g4
      exact g4
    · intro g
      exact ⟨u0, h1, h2, by rw [area u0 h1, area t ht]; exact h3, by rw [dn u0 h1]; exact g⟩
  rw [twinOpenS, cl4 (by omega)]
  by_cases hd : ce S 2 t 4 = 0
  · rw [if_neg (not_not_intro hd)]
    constructor
    · rintro ⟨u, h1, h2, h3, h4⟩
      rw [area u h1, area t ht] at h3
      exfalso
      rcases Nat.lt_or_gt_of_ne h2 with q | q
      · have := (hT.1 u t q ht h3).2.2; rw [hd] at this; exact absurd this (by decide)
      · have := (hT.1 t u q h1 h3.symm).2.1; rw [hd] at this; exact absurd this (by decide)
    · intro h; exact absurd rfl h
  · rw [if_pos hd]
    have hd1 : ce S 2 t 4 = 1 := ((hK t ht).2.2.2.2).resolve_left hd
    have tw1 : (∃ u, t = u + 1 ∧ ce S 2 u 0 = ce S 2 t 0) → twinS S (nI t) = 1 := by
      rintro ⟨u, rfl, q⟩
      rw [twinS, if_neg (show ¬ nI (u + 1) ≤ 0 from nI_ge (b := u + 1) (a := 0) (by omega) (by omega)), nI_pred, cl0 (by omega), cl0 (by omega), if_neg (not_not_intro q)]
    have tw0 : (¬ ∃ u, t = u + 1 ∧ ce S 2 u 0 = ce S 2 t 0) → twinS S (nI t) = 0 := by
      intro hn
      rw [twinS]
      cases t with
      | zero => rw [if_pos (by decide)]
      | succ u =>
        rw [if_neg (show ¬ nI (u + 1) ≤ 0 from nI_ge (b := u + 1) (a := 0) (by omega) (by omega)), nI_pred, cl0 (by omega), cl0 (by omega), if_pos (fun q => hn ⟨u, rfl, q⟩)]
    by_cases hu : ∃ u, t = u + 1 ∧ ce S 2 u 0 = ce S 2 t 0
    · rw [tw1 hu, if_neg (by decide)]
      obtain ⟨u, rfl, hu2⟩ := hu
      rw [nI_pred]
      refine one u (by omega) (by omega) hu2 (fun u1 g1 g2 g3 => ?_)
      rcases Nat.lt_or_gt_of_ne g2 with q | q
      · have := (hT.1 u1 (u + 1) q ht g3).1; omega
      · have e1 := (hT.1 u u1 (by omega) g1 (hu2.trans g3.symm)).1
        have e2 := (hT.1 (u + 1) u1 q g1 g3.symm).1
        omega
    · rw [tw0 hu, if_pos rfl, nI_1]
      rcases hT.2 t ht hd1 with q | q
      · refine one (t + 1) q.1 (by omega) q.2 (fun u1 g1 g2 g3 => ?_)
        rcases Nat.lt_or_gt_of_ne g2 with q1 | q1
        · exact absurd ⟨u1, (hT.1 u1 t q1 ht g3).1, g3⟩ hu
        · exact (hT.1 t u1 q1 g1 g3.symm).1
      · exact absurd q hu
def finY (S : HA) (t r a : Nat) : HA := if ¬ twinOpenS (fin3 S t r) (nI t) = 0 then fin3 S t r else clN (fin3 S t r) a
theorem fin_eq {S : HA} {t r a : Nat} (hb : EB S) (ht : t < sz S 2) (hr : r < sz S 0) (ha : a < sz S 1) (hw : ce S 2 t 1 = nI r) (har : ce S 2 t 0 = nI a) : finS S (nI t) = setF (dropS (finY S t r a) (nI t)) 7 (S.2 7 + 1) := by
  obtain ⟨hb0, hb1, hb2, hb3⟩ := hb
  have e1 : wr S 2 (nI t) 3 1 = Wc S 2 t 3 1 := wc3 ht (by decide) (by omega)
  have e2 : cl S 2 (nI t) 1 = nI r := by rw [cl1 (by omega)]; exact hw
  have e3 : cl S 2 (nI t) 2 = ce S 2 t 2 := cl2 (by omega)
  have e4 : inc (inc (setF (Wc S 2 t 3 1) 7 ((Wc S 2 t 3 1).2 7 + 1)) 0 (nI r) 6 (-(ce S 2 t 2))) 0 (nI r) 3 (ce S 2 t 2) = setF (fin3 S t r) 7 (S.2 7 + 1) := by
    rw [inc6 (by rw [sz_F, sz_W]; exact hr) (by decide) (by rw [sz_F, sz_W]; omega), inc3 (by rw [sz_W, sz_F, sz_W]; exact hr) (by decide) (by rw [sz_W, sz_F, sz_W]; omega)]
    rw [ce_W_c (by decide), ce_F, ce_F, ce_W_ne (by decide), ce_W_ne (by decide)]
    rfl
  unfold finS
  simp only
  rw [e1, e2, e3, e4]
  have e5 : cl (setF (fin3 S t r) 7 (S.2 7 + 1)) 2 (nI t) 0 = nI a := by
    rw [cl0 (by omega), ce_F, fin3, ce_W_ne (by decide), ce_W_ne (by decide), ce_W_c (by decide)]
    exact har
  rw [e5, clean_eq (by rw [sz_F, fin3, sz_W, sz_W, sz_W]; exact ha) (by rw [sz_F, fin3, sz_W, sz_W, sz_W]; exact hb1), finY]
  have e6 : twinOpenS (setF (fin3 S t r) 7 (S.2 7 + 1)) (nI t) = twinOpenS (fin3 S t r) (nI t) := rfl
  rw [e6]
  split <;> rfl
theorem finY_f {S : HA} {t r a : Nat} : (∀ j, sz (finY S t r a) j = sz S j) ∧ (∀ u c, ce (finY S t r a) 2 u c = ce (Wc S 2 t 3 1) 2 u c) ∧ (∀ s c, ce (finY S t r a) 3 s c = ce S 3 s c) ∧ (finY S t r a).2 = S.2 := by
  unfold finY
  split
  · refine ⟨fun j => by rw [fin3, sz_W, sz_W, sz_W], fun u c => by rw [fin3, ce_W_ne (by decide), ce_W_ne (by decide)], fun s c => by rw [fin3, ce_W_ne (by decide), ce_W_ne (by decide), ce_W_ne (by decide)], rfl⟩
  · refine ⟨fun j => by rw [clN, sz_W, sz_W, fin3, sz_W, sz_W, sz_W], fun u c => by rw [clN, ce_W_ne (by decide), ce_W_ne (by decide), fin3, ce_W_ne (by decide), ce_W_ne (by decide)], fun s c => by rw [clN, ce_W_ne (by decide), ce_W_ne (by decide), fin3, ce_W_ne (by decide), ce_W_ne (by decide), ce_W_ne (by decide)], rfl⟩
theorem fin_ok {S : HA} {f : Nat → Int32} {n t : Nat} (hE : ED S f) (hV : V S n) (ht : t < sz S 2) (ho : ce S 2 t 3 = 0) :
    ∃ r a, r < 8 ∧ a < 6 ∧ mk f t 1 = nI r ∧ mk f t 0 = nI a ∧ ED (finS S (nI t)) (finM f (sz S 2) (sz S 3) t r a).1 ∧ V (finS S (nI t)) n ∧ mk (finM f (sz S 2) (sz S 3) t r a).1 t 2 = ce S 2 t 2 ∧
      (∀ j, j ≠ 3 → sz (finS S (nI t)) j = sz S j) ∧ (∀ u c, ce (finS S (nI t)) 2 u c = if u = t ∧ c = 3 then 1 else ce S 2 u c) ∧ (finS S (nI t)).2 = (setF S 7 (S.2 7 + 1)).2 := by
  have hb := hE.1
  have hb2 := hb.2.2.1
  obtain ⟨⟨a, ha, har⟩, ⟨r, hr, hw⟩, ⟨e, he, hce⟩, -, -⟩ := hV.2.2.2.1 t ht
  have hk := hE.2.2.2.2.2.2.1
  have heq := fin_eq hb ht hr ha hw har
  have hm := (hE.2.2.2.2.1 r hr).2.1
  have E1 := e_sk hE ht (by decide : 3 < 5) 1
  have E2 := e_6 E1 (r := r) (ce S 0 r 6 + -(ce S 2 t 2))
  have E3 := e_so3 E2 (r := r) (by rw [sz_W, sz_W]; exact hr) (ce S 0 r 3 + ce S 2 t 2)
  have ev : mo (sk f t 3 1) r 1 + mk (sk f t 3 1) t 2 = ce S 0 r 3 + ce S 2 t 2 := by
    rw [mo_sk (by have := hb.1; omega) (by decide), mk_sk_ne (by decide) (by decide) (by omega), hm, hk t 2 ht (by decide)]
  have VF := vb_fin3 hV.b ht ho hr hw
  have sF : ∀ j, sz (fin3 S t r) j = sz S j := fun j => by rw [fin3, sz_W, sz_W, sz_W]
  have tl := twin_last (S := fin3 S t r) E3 VF.2.2.2.2.1 VF.2.2.2.1 (t := t) (by rw [sF]; exact ht)
  rw [sF] at tl
  obtain ⟨y1, y2, y3, y4⟩ := finY_f (S := S) (t := t) (r := r) (a := a)
  have EY : ED (finY S t r a) (if lastL (so (sk f t 3 1) r 1 (ce S 0 r 3 + ce S 2 t 2)) t (sz S 2) = 0 then so (sk f t 3 1) r 1 (ce S 0 r 3 + ce S 2 t 2) else cleanM (so (sk f t 3 1) r 1 (ce S 0 r 3 + ce S 2 t 2)) a) := by
    unfold finY
    by_cases q : twinOpenS (fin3 S t r) (nI t) = 0
    · rw [if_neg (not_not_intro q), if_neg (fun z => (tl.mp z) q)]
      exact e_clean E3 (by show a < sz (fin3 S t r) 1; rw [sF]; exact ha)
    · rw [if_pos q, if_pos (tl.mpr q)]
      exact E3
  have VY : VB (finY S t r a) n := by
    unfold finY
    split
    · exact VF
    · exact vb_clean VF (by rw [sF]; exact ha)
  have ED4 := e_drop (nI t) EY
  rw [y1 3] at ED4
  have e7 : (drM (nI t) (sz S 3) (if lastL (so (sk f t 3 1) r 1 (ce S 0 r 3 + ce S 2 t 2)) t (sz S 2) = 0 then so (sk f t 3 1) r 1 (ce S 0 r 3 + ce S 2 t 2) else cleanM (so (sk f t 3 1) r 1 (ce S 0 r 3 + ce S 2 t 2)) a) (sz S 3)).1 5 = S.2 7 := by
    rw [ED4.2.1.2.2.1]
    show (finY S t r a).2 7 = S.2 7
    rw [y4]
  have EF := e_f7 ED4 (S.2 7 + 1)
  have ef : (finM f (sz S 2) (sz S 3) t r a).1 = upd (drM (nI t) (sz S 3) (if lastL (so (sk f t 3 1) r 1 (ce S 0 r 3 + ce S 2 t 2)) t (sz S 2) = 0 then so (sk f t 3 1) r 1 (ce S 0 r 3 + ce S 2 t 2) else cleanM (so (sk f t 3 1) r 1 (ce S 0 r 3 + ce S 2 t 2)) a) (sz S 3)).1 5 (S.2 7 + 1) := by
    rw [← e7]
    unfold finM
    simp only
    rw [ev]
  have VD := vb_F (vb_drop (t := t) VY) (k := 7) (x := S.2 7 + 1) (by decide) (by decide)
  have c2 : ∀ u c, ce (finS S (nI t)) 2 u c = if u = t ∧ c = 3 then 1 else ce S 2 u c := fun u c => by
    rw [heq, ce_F, dropS, ce_T_ne (by decide), y2, ce_W]
  have s2 : ∀ j, j ≠ 3 → sz (finS S (nI t)) j = sz S j := fun j hj => by
    rw [heq, sz_F, dropS, sz_T_ne hj, y1]
  refine ⟨r, a, by have := hb.1; omega, by have := hb.2.1; omega, by rw [hk t 1 ht (by decide)]; exact hw, by rw [hk t 0 ht (by decide)]; exact har, ?_, ?_, ?_, s2, c2, ?_⟩
  · rw [ef, heq]
    exact EF
  · refine VB.v (by rw [heq]; exact VD) ?_
    intro s c hs hc
    have hs' : s < sz (dropS (finY S t r a) (nI t)) 3 := by rw [heq, sz_F] at hs; exact hs
    obtain ⟨-, -, d3⟩ := dr_all (t := t) VY
    obtain ⟨dn, s', h1, h2⟩ := d3 s hs'
    rw [y1] at h1
    obtain ⟨t', g1, g2, g3⟩ := hV.w s' c h1 hc
    have h2c := h2 c
    rw [y3, g2] at h2c
    have hne : t' ≠ t := by
      intro q
      subst q
      rcases (show c = 0 ∨ c = 1 by omega) with q | q
      · subst q; exact dn.1 h2c
      · subst q; exact dn.2 h2c
    refine ⟨t', by rw [s2 2 (by decide)]; exact g1, by rw [heq, ce_F]; exact h2c, ?_⟩
    rw [c2, if_neg (fun z => hne z.1)]
    exact g3
  · have h2 : t < sz (finS S (nI t)) 2 := by rw [s2 2 (by decide)]; exact ht
    have hEf : ED (finS S (nI t)) (finM f (sz S 2) (sz S 3) t r a).1 := by rw [ef, heq]; exact EF
    rw [hEf.2.2.2.2.2.2.1 t 2 h2 (by decide), c2, if_neg (fun z => absurd z.2 (by decide))]
  · rw [heq]
    show (fun i => if i = 7 then S.2 7 + 1 else (dropS (finY S t r a) (nI t)).2 i) = fun i => if i = 7 then S.2 7 + 1 else S.2 i
    funext i
    show (if i = 7 then S.2 7 + 1 else (finY S t r a).2 i) = _
    rw [y4]
