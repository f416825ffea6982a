/-! WHAT HOLDS OF A HOUSE after n units of work -/
def tmN (S : HA) (r t : Nat) : Nat := if ce S 2 t 1 = nI r ∧ ce S 2 t 3 = 0 then (ce S 2 t 2).toNatClampNeg else 0
def osN (S : HA) (r : Nat) : Nat → Nat
  | 0 => 0
  | t + 1 => osN S r t + tmN S r t
def VH (S : HA) : Prop := HInv S ∧ EB S ∧ sz S 4 = 1 ∧ ∃ w, w ≤ 999 ∧ S.2 5 = nI w
def VO (S : HA) (n : Nat) : Prop := ∀ r, r < sz S 0 → (∃ w, 1 ≤ w ∧ w ≤ 10 ∧ ce S 0 r 0 = nI w) ∧ (∃ k, k + osN S r (sz S 2) ≤ n ∧ ce S 0 r 3 = nI k) ∧ (∃ k, k ≤ n ∧ ce S 0 r 4 = nI k) ∧ ce S 0 r 6 = nI (osN S r (sz S 2))
def VA (S : HA) : Prop := (∀ a, a < sz S 1 → (∃ e, 1 ≤ e ∧ e ≤ 20 ∧ ce S 1 a 0 = nI e) ∧ ∃ p, 1 ≤ p ∧ p ≤ 4 ∧ ce S 1 a 1 = nI p) ∧ ∃ d, 2 ≤ d ∧ d ≤ 6 ∧ ce S 4 0 2 = nI d
def VK (S : HA) : Prop := ∀ t, t < sz S 2 → (∃ a, a < sz S 1 ∧ ce S 2 t 0 = nI a) ∧ (∃ r, r < sz S 0 ∧ ce S 2 t 1 = nI r) ∧ (∃ e, e ≤ 60 ∧ ce S 2 t 2 = nI e) ∧ (ce S 2 t 3 = 0 ∨ ce S 2 t 3 = 1) ∧ (ce S 2 t 4 = 0 ∨ ce S 2 t 4 = 1)
def VT (S : HA) : Prop := (∀ t u, t < u → u < sz S 2 → ce S 2 t 0 = ce S 2 u 0 → u = t + 1 ∧ ce S 2 t 4 = 1 ∧ ce S 2 u 4 = 1) ∧ ∀ t, t < sz S 2 → ce S 2 t 4 = 1 → (t + 1 < sz S 2 ∧ ce S 2 (t + 1) 0 = ce S 2 t 0) ∨ ∃ u, t = u + 1 ∧ ce S 2 u 0 = ce S 2 t 0
def VW (S : HA) : Prop := ∀ s c, s < sz S 3 → c < 2 → ∃ t, t < sz S 2 ∧ ce S 3 s c = nI t ∧ ce S 2 t 3 = 0
def VC (S : HA) : Prop := ∀ j r c, j < 4 → sz S j ≤ r → ce S j r c = 0
def V (S : HA) (n : Nat) : Prop := VH S ∧ VO S n ∧ VA S ∧ VK S ∧ VT S ∧ VW S ∧ VC S
theorem VO.le {S : HA} {n m : Nat} (h : VO S n) (hm : n ≤ m) : VO S m := fun r hr => by
  obtain ⟨h1, ⟨k, h2, h3⟩, ⟨k', h4, h5⟩, h6⟩ := h r hr
  exact ⟨h1, ⟨k, by omega, h3⟩, ⟨k', by omega, h5⟩, h6⟩
theorem V.le {S : HA} {n m : Nat} (h : V S n) (hm : n ≤ m) : V S m := ⟨h.1, h.2.1.le hm, h.2.2⟩
theorem osN_congr {S S' : HA} {r : Nat} : ∀ n, (∀ t, t < n → tmN S' r t = tmN S r t) → osN S' r n = osN S r n
  | 0, _ => rfl
  | n + 1, h => by rw [osN, osN, osN_congr n (fun t ht => h t (by omega)), h n (by omega)]
theorem osN_one {S S' : HA} {r t : Nat} : ∀ n, t < n → (∀ u, u < n → u ≠ t → tmN S' r u = tmN S r u) → osN S' r n + tmN S r t = osN S r n + tmN S' r t
  | 0, h, _ => absurd h (Nat.not_lt_zero _)
  | n + 1, h, hu => by
    rw [osN, osN]
    by_cases q : t = n
    · subst q
      rw [osN_congr t (fun u h1 => hu u (by omega) (by omega))]
      omega
    · have := osN_one n (by omega) (fun u h1 h2 => hu u (by omega) h2)
      rw [hu n (by omega) (by omega)]
      omega
theorem osN_two {S S' : HA} {r a b : Nat} (n : Nat) (ha : a < n) (hb : b < n) (hab : a ≠ b) (hu : ∀ u, u < n → u ≠ a → u ≠ b → tmN S' r u = tmN S r u) : osN S' r n + tmN S r a + tmN S r b = osN S r n + tmN S' r a + tmN S' r b := by
  induction n with
  | zero => exact absurd ha (Nat.not_lt_zero _)
  | succ n ih =>
    rw [osN, osN]
    by_cases qa : a = n
    · subst qa
      have := osN_one (S := S) (S' := S') (r := r) (t := b) a (by omega) (fun u h1 h2 => hu u (by omega) (by omega) h2)
      omega
    · by_cases qb : b = n
      · subst qb
        have := osN_one (S := S) (S' := S') (r := r) (t := a) b (by omega) (fun u h1 h2 => hu u (by omega) h2 (by omega))
        omega
      · have := ih (by omega) (by omega) (fun u h1 => hu u (by omega))
        rw [hu n (by omega) (by omega) (by omega)]
        omega
theorem tm_le {S : HA} (hK : VK S) {r t : Nat} (ht : t < sz S 2) : tmN S r t ≤ 60 := by
  obtain ⟨-, -, ⟨e, he, h⟩, -, -⟩ := hK t ht
  rw [tmN]
  split
  · rw [h, nI_clamp (by omega)]; exact he
  · exact Nat.zero_le _
theorem os_le {S : HA} (hK : VK S) {r : Nat} : ∀ n, n ≤ sz S 2 → osN S r n ≤ 60 * n
  | 0, _ => Nat.le_refl _
  | n + 1, h => by
    have := os_le hK (r := r) n (by omega)
    have := tm_le hK (r := r) (t := n) (by omega)
    rw [osN]
    omega
theorem os_ge {S : HA} {r t : Nat} : ∀ n, t < n → tmN S r t ≤ osN S r n
  | 0, h => absurd h (Nat.not_lt_zero _)
  | n + 1, h => by
    rw [osN]
    by_cases q : t = n
    · rw [q]; omega
    · have := os_ge (S := S) (r := r) n (show t < n by omega)
      omega
-- the model's load is the class's
theorem lm_os {S : HA} {f : Nat → Int32} (hE : ED S f) (hK : VK S) {r k : Nat} (hr : r < sz S 0) (h3 : ce S 0 r 3 = nI k) : ∀ t, t ≤ sz S 2 → lm f r t = nI (k + osN S r t)
  | 0, _ => by
    rw [lm, (hE.2.2.2.2.1 r hr).2.1, h3]
    rfl
  | t + 1, ht => by
    have hk := hE.2.2.2.2.2.2.1
    obtain ⟨-, -, ⟨e, he, h⟩, -, -⟩ := hK t (by omega)
    rw [lm, lm_os hE hK hr h3 t (by omega), osN, tmN, hk t 1 (by omega) (by decide), hk t 2 (by omega) (by decide), hk t 3 (by omega) (by decide)]
    by_cases h1 : ce S 2 t 1 = nI r
    · by_cases h2 : ce S 2 t 3 = 0
      · rw [if_neg (not_not_intro h1), if_neg (not_not_intro h2), if_pos ⟨h1, h2⟩, h, nI_clamp (by omega), nI_add, Nat.add_assoc]
      · rw [if_neg (not_not_intro h1), if_pos h2, if_neg (fun z => h2 z.2), Int32.add_zero, Nat.add_zero]
    · rw [if_pos h1, if_neg (fun z => h1 z.1), Int32.add_zero, Nat.add_zero]
theorem load_eq {S : HA} {f : Nat → Int32} {n : Nat} (hE : ED S f) (hV : V S n) {r : Nat} (hr : r < sz S 0) : lm f r (sz S 2) = loadS S (nI r) := by
  obtain ⟨-, ⟨k, hk, h3⟩, -, h6⟩ := hV.2.1 r hr
  have hb := hE.1.1
  rw [lm_os hE hV.2.2.2.1 hr h3 _ (Nat.le_refl _), loadS, cl3 (by omega), cl6 (by omega), h3, h6, nI_add]
theorem load_nn {S : HA} {n : Nat} (hV : V S n) {r : Nat} (hr : r < sz S 0) : ∃ k, k ≤ n ∧ loadS S (nI r) = nI k := by
  obtain ⟨-, ⟨k, hk, h3⟩, -, h6⟩ := hV.2.1 r hr
  have hb := hV.1.2.1.1
  exact ⟨_, hk, by rw [loadS, cl3 (by omega), cl6 (by omega), h3, h6, nI_add]⟩
-- removing a row of swaps
theorem rmF_val {m i : Nat} : ∀ (k : Nat) (f : Nat → Int32), k ≤ m → rmF m k f i = if 150 + (m - k) ≤ i ∧ i < 150 + m then f (i + 2) else f i
  | 0, f, _ => by rw [rmF, if_neg (by omega)]
  | k + 1, f, h => by
    rw [rmF, rmF_val k _ (by omega)]
    by_cases h1 : 150 + (m - k) ≤ i ∧ i < 150 + m
    · rw [if_pos h1, if_pos (by omega), up_ne (by omega)]
    · rw [if_neg h1]
      by_cases h2 : i = 150 + (m - (k + 1))
      · rw [if_pos (by omega), h2, up_at]
      · rw [if_neg (by omega), up_ne h2]
theorem rmM_hi {f : Nat → Int32} {ns s i : Nat} (hs : s < ns) (hi : 8 ≤ i) : rmM f ns s i = if 150 + 2 * s ≤ i ∧ i < 150 + 2 * (ns - 1) then f (i + 2) else f i := by
  rw [rmM, rmF_val _ _ (by omega), show 2 * (ns - 1) - (2 * (ns - 1) - 2 * s) = 2 * s by omega, up_ne (by omega), up_ne (by omega)]
theorem e_rm {S : HA} {f : Nat → Int32} {T : TV} {s : Nat} (h : ED (setT S 3 T) f) (hs : s < T.1) : ED (setT S 3 (trem T s)) (rmM f T.1 s) := by
  obtain ⟨⟨hb0, hb1, hb2, hb3⟩, ⟨hs0, hs4, hs5, hs6⟩, ⟨hc1, hc2, hc3, hc7⟩, hg, ho, ha, hk, hw⟩ := h
  have n03 : (0 : Nat) ≠ 3 := by decide
  have n13 : (1 : Nat) ≠ 3 := by decide
  have n23 : (2 : Nat) ≠ 3 := by decide
  have n43 : (4 : Nat) ≠ 3 := by decide
  rw [sz_T_ne n03] at hb0 hc1
  rw [sz_T_ne n13] at hb1 hc2
  rw [sz_T_ne n23] at hb2 hc3
  rw [sz_T] at hb3 hc7
  refine ⟨⟨by rw [sz_T_ne n03]; exact hb0, by rw [sz_T_ne n13]; exact hb1, by rw [sz_T_ne n23]; exact hb2, by rw [sz_T]; show T.1 - 1 ≤ 6; omega⟩, ⟨?_, ?_, ?_, ?_⟩, ⟨?_, ?_, ?_, ?_⟩, ?_, ?_, ?_, ?_, ?_⟩
  · rw [rmM_lo (by decide) (by decide)]; exact hs0
  · rw [rmM_lo (by decide) (by decide)]; exact hs4
  · rw [rmM_lo (by decide) (by decide)]; exact hs5
  · rw [rmM_lo (by decide) (by decide)]; exact hs6
  · rw [rmM_lo (by decide) (by decide), sz_T_ne n03]; exact hc1
  · rw [rmM_lo (by decide) (by decide), sz_T_ne n13]; exact hc2
  · rw [rmM_lo (by decide) (by decide), sz_T_ne n23]; exact hc3
  · rw [rmM_7, sz_T]; rfl
  · intro j hj
    rw [rmM_lo (by omega) (by omega), ce_T_ne n43, hg j hj, ce_T_ne n43]
  · intro r hr
    rw [sz_T_ne n03] at hr
    have := ho r (by rw [sz_T_ne n03]; exact hr)
    simp only [ce_T_ne n03] at this ⊢
    unfold mo at this ⊢
    rw [rmM_lo (by omega) (by omega), rmM_lo (by omega) (by omega), rmM_lo (by omega) (by omega), rmM_lo (by omega) (by omega), rmM_lo (by omega) (by omega), rmM_lo (by omega) (by omega)]
    exact this
  · intro a c h1 h2
    rw [sz_T_ne n13] at h1
    have := ha a c (by rw [sz_T_ne n13]; exact h1) h2
    rw [ce_T_ne n13] at this ⊢
    unfold ma at this ⊢
    rw [rmM_lo (by omega) (by omega)]
    exact this
  · intro t c h1 h2
    rw [sz_T_ne n23] at h1
    have := hk t c (by rw [sz_T_ne n23]; exact h1) h2
    rw [ce_T_ne n23] at this ⊢
    unfold mk at this ⊢
    rw [rmM_lo (by omega) (by omega)]
    exact this
  · intro s1 c h1 h2
    rw [sz_T] at h1
    have h1 : s1 < T.1 - 1 := h1
    rw [ce_T]
    show _ = if s1 < s then T.2 s1 c else T.2 (s1 + 1) c
    unfold mw
    rw [rmM_hi hs (by omega)]
    by_cases q : s1 < s
    · rw [if_neg (by omega), if_pos q]
      have := hw s1 c (by rw [sz_T]; omega) h2
      rw [ce_T] at this
      exact this
    · rw [if_pos (by omega), if_neg q]
      have := hw (s1 + 1) c (by rw [sz_T]; omega) h2
      rw [ce_T] at this
      rw [show 150 + 2 * s1 + c + 2 = 150 + 2 * (s1 + 1) + c by omega]
      exact this
theorem e_dr {S : HA} {t : Int32} : ∀ (k : Nat) (f : Nat → Int32) (T : TV), k ≤ T.1 → ED (setT S 3 T) f → ED (setT S 3 (dropT t k T)) (drM t k f T.1).1 ∧ (dropT t k T).1 = (drM t k f T.1).2
  | 0, f, T, _, h => ⟨h, rfl⟩
  | k + 1, f, T, hk, h => by
    have hb : T.1 ≤ 6 := by have := h.1.2.2.2; rw [sz_T] at this; exact this
    have hw := h.2.2.2.2.2.2.2
    have w0 := hw k 0 (by rw [sz_T]; omega) (by decide)
    have w1 := hw k 1 (by rw [sz_T]; omega) (by decide)
    rw [ce_T] at w0 w1
    have t0 : tcell T (nI k) 0 = mw f k 0 := by rw [w0]; exact tcell_nI (c := 0) (by omega) (by decide)
    have t1 : tcell T (nI k) 1 = mw f k 1 := by rw [w1]; exact tcell_nI (c := 1) (by omega) (by decide)
    have hrm := e_dr (t := t) k (rmM f T.1 k) (trem T k) (by show k ≤ T.1 - 1; omega) (e_rm h (by omega))
    have hno := e_dr (t := t) k f T (by omega) h
    rw [dropT, drM, t0, t1]
    by_cases q0 : mw f k 0 = t
    · rw [if_pos q0, if_pos q0]; exact hrm
    · rw [if_neg q0, if_neg q0]
      by_cases q1 : mw f k 1 = t
      · rw [if_neg (not_not_intro q1), if_neg (not_not_intro q1)]; exact hrm
      · rw [if_pos q1, if_pos q1]; exact hno
theorem e_drop {S : HA} {f : Nat → Int32} (t : Int32) (h : ED S f) : ED (dropS S t) (drM t (sz S 3) f (sz S 3)).1 := by
  have := (e_dr (S := S) (t := t) (sz S 3) f (S.1 3) (Nat.le_refl _) (by rw [setT_self]; exact h)).1
  exact this
theorem dr_row {t : Int32} : ∀ (k : Nat) (T : TV), k ≤ T.1 → (∀ r, T.1 ≤ r → ∀ c, T.2 r c = 0) → (∀ s, k ≤ s → s < T.1 → T.2 s 0 ≠ t ∧ T.2 s 1 ≠ t) → T.1 < 2 ^ 31 →
    (dropT t k T).1 ≤ T.1 ∧ (∀ r, (dropT t k T).1 ≤ r → ∀ c, (dropT t k T).2 r c = 0) ∧ ∀ s, s < (dropT t k T).1 → ((dropT t k T).2 s 0 ≠ t ∧ (dropT t k T).2 s 1 ≠ t) ∧ ∃ s', s' < T.1 ∧ ∀ c, (dropT t k T).2 s c = T.2 s' c
  | 0, T, _, hz, hn, _ => ⟨Nat.le_refl _, hz, fun s hs => ⟨hn s (Nat.zero_le _) hs, s, hs, fun _ => rfl⟩⟩
  | k + 1, T, hk, hz, hn, h31 => by
    have hrm := dr_row (t := t) k (trem T k) (by show k ≤ T.1 - 1; omega) (fun r hr c => by
      show (if r < k then T.2 r c else T.2 (r + 1) c) = 0
      have hr : T.1 - 1 ≤ r := hr
      rw [if_neg (by omega)]; exact hz _ (by omega) c) (fun s h1 h2 => by
      have h2 : s < T.1 - 1 := h2
      show (if s < k then T.2 s 0 else T.2 (s + 1) 0) ≠ t ∧ (if s < k then T.2 s 1 else T.2 (s + 1) 1) ≠ t
      rw [if_neg (by omega), if_neg (by omega)]
      exact hn (s + 1) (by omega) (by omega)) (by show T.1 - 1 < 2 ^ 31; omega)
    have hrm2 : (dropT t k (trem T k)).1 ≤ T.1 ∧ (∀ r, (dropT t k (trem T k)).1 ≤ r → ∀ c, (dropT t k (trem T k)).2 r c = 0) ∧ ∀ s, s < (dropT t k (trem T k)).1 → ((dropT t k (trem T k)).2 s 0 ≠ t ∧ (dropT t k (trem T k)).2 s 1 ≠ t) ∧ ∃ s', s' < T.1 ∧ ∀ c, (dropT t k (trem T k)).2 s c = T.2 s' c := by
      refine ⟨Nat.le_trans hrm.1 (Nat.sub_le _ _), hrm.2.1, fun s hs => ⟨(hrm.2.2 s hs).1, ?_⟩⟩
      obtain ⟨s', h1, h2⟩ := (hrm.2.2 s hs).2
      have h1 : s' < T.1 - 1 := h1
      by_cases q : s' < k
      · exact ⟨s', by omega, fun c => (h2 c).trans (if_pos q)⟩
      · exact ⟨s' + 1, by omega, fun c => (h2 c).trans (if_neg q)⟩
    have t0 : tcell T (nI k) 0 = T.2 k 0 := tcell_nI (c := 0) (by omega) (by decide)
    have t1 : tcell T (nI k) 1 = T.2 k 1 := tcell_nI (c := 1) (by omega) (by decide)
    rw [dropT, t0, t1]
    by_cases q0 : T.2 k 0 = t
    · rw [if_pos q0]; exact hrm2
    · rw [if_neg q0]
      by_cases q1 : T.2 k 1 = t
      · rw [if_neg (not_not_intro q1)]; exact hrm2
      · rw [if_pos q1]
        refine dr_row k T (by omega) hz (fun s h1 h2 => ?_) h31
        by_cases q : s = k
        · rw [q]; exact ⟨q0, q1⟩
        · exact hn s (by omega) h2
