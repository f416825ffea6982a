/-! plan(): the week's tasks in their order, each to the least laden -/
theorem nsub_lt {a b : Nat} (ha : a < 2 ^ 30) (hb : b < 2 ^ 30) : nI a - nI b < 0 ↔ a < b := by
  rw [Int32.lt_iff_toInt_lt, pk_sub_toInt ha hb, show (0 : Int32).toInt = 0 from rfl]
  omega
theorem nsub_z {a b : Nat} (ha : a < 2 ^ 30) (hb : b < 2 ^ 30) : nI a - nI b = 0 ↔ a = b := by
  rw [← Int32.toInt_inj, pk_sub_toInt ha hb, show (0 : Int32).toInt = 0 from rfl]
  omega
def Bt (l w d : Nat → Nat) (x y : Nat) : Prop := l x * w y < l y * w x ∨ (l x * w y = l y * w x ∧ (d y < d x ∨ (d x = d y ∧ x < y)))
theorem crossL {a b c p q r : Nat} (hq : 0 < q) (h1 : a * q ≤ b * p) (h2 : b * r ≤ c * q) : a * r ≤ c * p := by
  have h : (a * r) * q ≤ (c * p) * q := by
    have e1 : (a * r) * q = (a * q) * r := by ac_rfl
    have e2 : (b * p) * r = (b * r) * p := by ac_rfl
    have e3 : (c * q) * p = (c * p) * q := by ac_rfl
    rw [e1, ← e3]
    exact Nat.le_trans (Nat.mul_le_mul_right r h1) (by rw [e2]; exact Nat.mul_le_mul_right p h2)
  exact Nat.le_of_mul_le_mul_right h hq
theorem crossA {a b c p q r : Nat} (hr : 0 < r) (h1 : a * q < b * p) (h2 : b * r ≤ c * q) : a * r < c * p :=
  Nat.lt_of_not_le (fun h => absurd (crossL hr h2 h) (Nat.not_le.mpr h1))
theorem crossB {a b c p q r : Nat} (hp : 0 < p) (h1 : a * q ≤ b * p) (h2 : b * r < c * q) : a * r < c * p :=
  Nat.lt_of_not_le (fun h => absurd (crossL hp h h1) (Nat.not_le.mpr h2))
theorem bt_irr {l w d : Nat → Nat} {x : Nat} : ¬ Bt l w d x x := by
  rintro (h | ⟨-, h | h⟩)
  · exact Nat.lt_irrefl _ h
  · exact Nat.lt_irrefl _ h
  · exact Nat.lt_irrefl _ h.2
theorem bt_tr {l w d : Nat → Nat} {x y z : Nat} (hx : 0 < w x) (hy : 0 < w y) (hz : 0 < w z) (h1 : Bt l w d x y) (h2 : Bt l w d y z) : Bt l w d x z := by
  rcases h1 with h1 | ⟨h1, k1⟩
  · rcases h2 with h2 | ⟨h2, k2⟩
    · exact Or.inl (crossA hz h1 (Nat.le_of_lt h2))
    · exact Or.inl (crossA hz h1 (Nat.le_of_eq h2))
  · rcases h2 with h2 | ⟨h2, k2⟩
    · exact Or.inl (crossB hx (Nat.le_of_eq h1) h2)
    · exact Or.inr ⟨Nat.le_antisymm (crossL hy (Nat.le_of_eq h1) (Nat.le_of_eq h2)) (crossL hy (Nat.le_of_eq h2.symm) (Nat.le_of_eq h1.symm)), by omega⟩
def LWD (Y : HA) (l w d : Nat → Nat) (x : Nat) : Prop := loadS Y (nI x) = nI (l x) ∧ ce Y 0 x 0 = nI (w x) ∧ ce Y 0 x 4 = nI (d x) ∧ l x ≤ 1000000 ∧ 1 ≤ w x ∧ w x ≤ 10 ∧ d x ≤ 1000000
theorem ahd_iff {Y : HA} {l w d : Nat → Nat} {x m : Nat} (hx : x < 2 ^ 31) (hm : m < 2 ^ 31) (h1 : LWD Y l w d x) (h2 : LWD Y l w d m) : aheadS Y (nI x) (nI m) = 0 ↔ ¬ (l x * w m < l m * w x ∨ (l x * w m = l m * w x ∧ d m < d x)) := by
  obtain ⟨a1, a2, a3, a4, a5, a6, a7⟩ := h1
  obtain ⟨b1, b2, b3, b4, b5, b6, b7⟩ := h2
  have m1 : l x * w m ≤ 1000000 * 10 := Nat.mul_le_mul a4 b6
  have m2 : l m * w x ≤ 1000000 * 10 := Nat.mul_le_mul b4 a6
  rw [aheadS, a1, b1, cl0 hx, cl0 hm, cl4 hx, cl4 hm, a2, b2, a3, b3, pk_mul, pk_mul]
  have i1 : nI (l x * w m) = nI (l m * w x) ↔ l x * w m = l m * w x := nI_eq (by omega) (by omega)
  have i2 : nI (d x) ≤ nI (d m) ↔ d x ≤ d m := nI_leI (by omega) (by omega)
  have i3 : nI (l m * w x) ≤ nI (l x * w m) ↔ l m * w x ≤ l x * w m := nI_leI (by omega) (by omega)
  by_cases q : l x * w m = l m * w x
  · rw [if_pos (i1.mpr q)]
    by_cases q2 : d x ≤ d m
    · rw [if_pos (i2.mpr q2)]; exact ⟨fun _ z => by omega, fun _ => rfl⟩
    · rw [if_neg (fun z => q2 (i2.mp z))]; exact ⟨fun z => absurd z (by decide), fun z => (z (by omega)).elim⟩
  · rw [if_neg (fun z => q (i1.mp z))]
    by_cases q2 : l m * w x ≤ l x * w m
    · rw [if_pos (i3.mpr q2)]; exact ⟨fun _ z => by omega, fun _ => rfl⟩
    · rw [if_neg (fun z => q2 (i3.mp z))]; exact ⟨fun z => absurd z (by decide), fun z => (z (by omega)).elim⟩
theorem free_iff {S : HA} {b r : Int32} : ¬ freeS S b r = 0 ↔ (¬ r = b ∧ awayS S r = 0) := by
  rw [freeS]
  by_cases q : r = b
  · rw [if_pos q]; exact ⟨fun z => absurd rfl z, fun z => absurd q z.1⟩
  · rw [if_neg q]
    by_cases q2 : awayS S r = 0
    · rw [if_neg (not_not_intro q2)]; exact ⟨fun _ => ⟨q, q2⟩, fun _ => by decide⟩
    · rw [if_pos q2]; exact ⟨fun z => absurd rfl z, fun z => absurd z.2 q2⟩
theorem least_min {Y : HA} {b : Int32} {l w d : Nat → Nat} {N : Nat} (hN : N < 2 ^ 31) (H : ∀ x, x < N → LWD Y l w d x) : ∀ n, n ≤ N →
    (leastL Y b n = -6 ∧ ∀ r, r < n → freeS Y b (nI r) = 0) ∨ ∃ m, m < n ∧ leastL Y b n = nI m ∧ ¬ freeS Y b (nI m) = 0 ∧ ∀ x, x < n → ¬ freeS Y b (nI x) = 0 → ¬ Bt l w d x m
  | 0, _ => Or.inl ⟨rfl, fun r h => absurd h (Nat.not_lt_zero _)⟩
  | n + 1, hn => by
    rw [leastL]
    have stay : ∀ m, m < n → (∀ x, x < n → ¬ freeS Y b (nI x) = 0 → ¬ Bt l w d x m) → (freeS Y b (nI n) = 0 ∨ ¬ Bt l w d n m) → ∀ x, x < n + 1 → ¬ freeS Y b (nI x) = 0 → ¬ Bt l w d x m := fun m _ h1 h2 x hx hf => by
      by_cases e : x = n
      · subst e
        rcases h2 with h2 | h2
        · exact absurd h2 hf
        · exact h2
      · exact h1 x (by omega) hf
    rcases least_min hN H n (by omega) with ⟨h1, h2⟩ | ⟨m, h1, h2, h3, h4⟩
    · by_cases q : freeS Y b (nI n) = 0
      · rw [if_pos q]
        refine Or.inl ⟨h1, fun r hr => ?_⟩
        by_cases e : r = n
        · rw [e]; exact q
        · exact h2 r (by omega)
      · rw [if_neg q, if_pos h1]
        refine Or.inr ⟨n, by omega, rfl, q, fun x hx hf => ?_⟩
        by_cases e : x = n
        · rw [e]; exact bt_irr
        · exact absurd (h2 x (by omega)) hf
    · by_cases q : freeS Y b (nI n) = 0
      · rw [if_pos q]
        exact Or.inr ⟨m, by omega, h2, h3, stay m h1 h4 (Or.inl q)⟩
      · rw [if_neg q, if_neg (show ¬ leastL Y b n = -6 by rw [h2]; exact nI_6 (by omega)), h2]
        have ai := ahd_iff (x := n) (m := m) (by omega) (by omega) (H n (by omega)) (H m (by omega))
        by_cases q2 : aheadS Y (nI n) (nI m) = 0
        · rw [if_pos q2]
          refine Or.inr ⟨m, by omega, rfl, h3, stay m h1 h4 (Or.inr ?_)⟩
          have := ai.mp q2
          rintro (z | ⟨z1, z2 | z2⟩)
          · exact this (Or.inl z)
          · exact this (Or.inr ⟨z1, z2⟩)
          · omega
        · rw [if_neg q2]
          have hb : Bt l w d n m := by
            have := Decidable.of_not_not (fun z => q2 (ai.mpr z))
            rcases this with z | ⟨z1, z2⟩
            · exact Or.inl z
            · exact Or.inr ⟨z1, Or.inl z2⟩
          refine Or.inr ⟨n, by omega, rfl, q, fun x hx hf z => ?_⟩
          by_cases e : x = n
          · rw [e] at z; exact bt_irr z
          · exact h4 x (by omega) hf (bt_tr (H x (by omega)).2.2.2.2.1 (H n (by omega)).2.2.2.2.1 (H m (by omega)).2.2.2.2.1 z hb)
def kSN (S : HA) (r : Nat) : Nat := (ce S 0 r 3).toNatClampNeg
def wSN (S : HA) (r : Nat) : Nat := (ce S 0 r 0).toNatClampNeg
def dSN (S : HA) (r : Nat) : Nat := (ce S 0 r 4).toNatClampNeg
def barV (Y : HA) (u : Nat) : Int32 := if u = 0 then -6 else if ce Y 2 (u - 1) 0 = ce Y 2 u 0 then ce Y 2 (u - 1) 1 else -6
theorem bar_x {Y : HA} {u : Nat} (hu : u < 2 ^ 31) : (if twinS Y (nI u) = 0 then (-6 : Int32) else cl Y 2 (nI u - 1) 1) = barV Y u := by
  cases u with
  | zero => rw [twinS, if_pos (show nI 0 ≤ 0 by decide), if_pos rfl]; rfl
  | succ v =>
    rw [twinS, if_neg (show ¬ nI (v + 1) ≤ 0 from nI_ge (b := v + 1) (a := 0) (by omega) (by omega)), nI_pred, cl0 (by omega), cl0 (by omega), cl1 (by omega)]
    unfold barV
    rw [if_neg (show ¬ v + 1 = 0 by omega), show v + 1 - 1 = v from rfl]
    by_cases q : ce Y 2 v 0 = ce Y 2 (v + 1) 0
    · rw [if_pos q, if_neg (not_not_intro q), if_neg (show ¬ (1 : Int32) = 0 by decide)]
    · rw [if_neg q, if_pos q, if_pos rfl]
def GRow (S Y : HA) (u : Nat) : Prop := ∃ r, r < sz S 0 ∧ ce Y 2 u 1 = nI r ∧ awayS S (nI r) = 0 ∧ ∀ x, x < sz S 0 → awayS S (nI x) = 0 → x ≠ r → ¬ nI x = barV Y u → ¬ nI r = barV Y u ∧ ¬ Bt (fun i => kSN S i + osN Y i u) (wSN S) (dSN S) x r
def GY (S : HA) (L : List Tr) (t : Nat) (Y : HA) : Prop :=
  (sz Y 2 = L.length ∧ ∀ (u : Nat) (x : Tr), L[u]? = some x → ce Y 2 u 0 = x.1 ∧ ce Y 2 u 2 = x.2.1 ∧ ce Y 2 u 4 = x.2.2 ∧ ce Y 2 u 3 = 0) ∧
  (∀ j, j ≠ 2 → sz Y j = sz S j) ∧ (∀ j r c, j ≠ 2 → (j = 0 → c ≠ 6) → ce Y j r c = ce S j r c) ∧ Y.2 = S.2 ∧ (∀ r, r < sz S 0 → ce Y 0 r 6 = nI (osN Y r t)) ∧ ∀ u, u < t → GRow S Y u
theorem gy_os {S : HA} {L : List Tr} {Y : HA} {t : Nat} (hB : TB L (sz S 1)) (h : GY S L t Y) {r : Nat} : ∀ u, u ≤ L.length → osN Y r u ≤ 60 * u
  | 0, _ => Nat.le_refl _
  | u + 1, hu => by
    have ih := gy_os hB h (r := r) u (by omega)
    have hx : L[u]? = some L[u] := List.getElem?_eq_getElem (by omega)
    obtain ⟨-, ⟨e, e1, e2⟩, -⟩ := hB.2.2 _ (List.mem_of_getElem? hx)
    have h2 := (h.1.2 u _ hx).2.1
    have : tmN Y r u ≤ 60 := by
      rw [tmN]
      split
      · rw [h2, e2, nI_clamp (by omega)]; exact e1
      · exact Nat.zero_le _
    rw [osN]
    omega
set_option maxHeartbeats 1000000 in
theorem gy_step {S : HA} {L : List Tr} {Y : HA} {n t : Nat} (hV : V S n) (hn : n ≤ 900000) (hB : TB L (sz S 1)) (hhere : ∃ r, r < sz S 0 ∧ awayS S (nI r) = 0) (ht : t < L.length) (h : GY S L t Y) : GY S L (t + 1) (give1 Y (nI t)) := by
  have hx : L[t]? = some L[t] := List.getElem?_eq_getElem ht
  have hl12 := hB.2.1
  have hos := fun r => gy_os hB h (r := r) t (by omega)
  obtain ⟨⟨h1, h2⟩, h3, h4, h5, h6, h7⟩ := h
  obtain ⟨hb0, hb1, hb2, hb3⟩ := hV.1.2.1
  have s0 : sz Y 0 = sz S 0 := h3 0 (by decide)
  have aw : ∀ r, r < sz S 0 → awayS Y (nI r) = awayS S (nI r) := fun r hr => by
    rw [awayS, awayS, h5, cl1 (by omega), cl1 (by omega), cl2 (by omega), cl2 (by omega), h4 0 r 1 (by decide) (fun _ => by decide), h4 0 r 2 (by decide) (fun _ => by decide)]
  have H : ∀ x, x < sz S 0 → LWD Y (fun i => kSN S i + osN Y i t) (wSN S) (dSN S) x := fun x hx => by
    obtain ⟨⟨w, w1, w2, w3⟩, ⟨k, k1, k2⟩, ⟨k', k3, k4⟩, -⟩ := hV.2.1 x hx
    have ek : kSN S x = k := by rw [kSN, k2, nI_clamp (by omega)]
    have ew : wSN S x = w := by rw [wSN, w3, nI_clamp (by omega)]
    have ed : dSN S x = k' := by rw [dSN, k4, nI_clamp (by omega)]
    have := hos x
    refine ⟨?_, ?_, ?_, ?_, by rw [ew]; exact w1, by rw [ew]; exact w2, by rw [ed]; omega⟩
    · show _ = nI (kSN S x + osN Y x t)
      rw [loadS, cl3 (by omega), cl6 (by omega), h4 0 x 3 (by decide) (fun _ => by decide), h6 x hx, k2, ek, nI_add]
    · rw [h4 0 x 0 (by decide) (fun _ => by decide), ew, w3]
    · rw [h4 0 x 4 (by decide) (fun _ => by decide), ed, k4]
    · show kSN S x + osN Y x t ≤ 1000000
      rw [ek]; omega
  have hbar := bar_x (Y := Y) (u := t) (by omega)
  have hwho : ∃ r, r < sz S 0 ∧ leastS Y (barV Y t) = nI r ∧ awayS S (nI r) = 0 ∧ ∀ x, x < sz S 0 → awayS S (nI x) = 0 → x ≠ r → ¬ nI x = barV Y t → ¬ nI r = barV Y t ∧ ¬ Bt (fun i => kSN S i + osN Y i t) (wSN S) (dSN S) x r := by
    rw [leastS, s0]
    rcases least_min (Y := Y) (b := barV Y t) (N := sz S 0) (by omega) H (sz S 0) (Nat.le_refl _) with ⟨k1, k2⟩ | ⟨m, k1, k2, k3, k4⟩
    · obtain ⟨r, hr, har⟩ := hhere
      have ex : ∀ x, x < sz S 0 → awayS S (nI x) = 0 → nI x = barV Y t := fun x hx hax => Decidable.byContradiction (fun z => absurd (k2 x hx) (free_iff.mpr ⟨z, (aw x hx).trans hax⟩))
      rw [if_neg (not_not_intro k1)]
      exact ⟨r, hr, (ex r hr har).symm, har, fun x hx hax _ hne => absurd (ex x hx hax) hne⟩
    · have k5 := free_iff.mp k3
      rw [k2, if_pos (nI_6 (by omega))]
      exact ⟨m, k1, rfl, (aw m k1).symm.trans k5.2, fun x hx hax _ hne => ⟨k5.1, k4 x hx (free_iff.mpr ⟨hne, (aw x hx).trans hax⟩)⟩⟩
  obtain ⟨r, hr, hX, hR1, hR2⟩ := hwho
  obtain ⟨x0, x2, x4, x3⟩ := h2 t _ hx
  obtain ⟨-, ⟨e, e1, e2⟩, -⟩ := hB.2.2 _ (List.mem_of_getElem? hx)
  have eY : give1 Y (nI t) = Wc (Wc Y 2 t 1 (nI r)) 0 r 6 (ce Y 0 r 6 + ce Y 2 t 2) := by
    unfold give1
    simp only
    rw [hbar, hX, wc1 (by rw [h1]; exact ht) (by decide) (by omega), inc6 (by rw [sz_W, s0]; exact hr) (by decide) (by rw [sz_W, s0]; omega), cl2 (by omega), ce_W_ne (by decide), ce_W_c (by decide)]
  rw [eY]
  obtain ⟨Z, hZ⟩ : ∃ Z, Wc (Wc Y 2 t 1 (nI r)) 0 r 6 (ce Y 0 r 6 + ce Y 2 t 2) = Z := ⟨_, rfl⟩
  have zs : ∀ j, sz Z j = sz Y j := fun j => by rw [← hZ, sz_W, sz_W]
  have c2 : ∀ u c, ce Z 2 u c = if u = t ∧ c = 1 then nI r else ce Y 2 u c := fun u c => by rw [← hZ, ce_W_ne (by decide), ce_W]
  have zo : ∀ j i c, j ≠ 2 → (j = 0 → c ≠ 6) → ce Z j i c = ce Y j i c := fun j i c q0 q1 => by
    rw [← hZ]
    by_cases q : j = 0
    · subst q; rw [ce_W_c (q1 rfl), ce_W_ne (by decide)]
    · rw [ce_W_ne q, ce_W_ne q0]
  have z6 : ∀ i, ce Z 0 i 6 = if i = r then ce Y 0 r 6 + ce Y 2 t 2 else ce Y 0 i 6 := fun i => by
    rw [← hZ]
    by_cases q : i = r
    · rw [if_pos q, q, ce_W_at]
    · rw [if_neg q, ce_W_r q, ce_W_ne (by decide)]
  have zF : Z.2 = Y.2 := by rw [← hZ]; rfl
  rw [hZ]
  have os : ∀ x u, u ≤ t → osN Z x u = osN Y x u := fun x u hu => osN_congr u (fun v hv => by
    unfold tmN
    rw [c2, c2, c2, if_neg (show ¬ (v = t ∧ 1 = 1) by omega), if_neg (show ¬ (v = t ∧ 3 = 1) by omega), if_neg (show ¬ (v = t ∧ 2 = 1) by omega)])
  have bz : ∀ u, u ≤ t → barV Z u = barV Y u := fun u hu => by
    unfold barV
    by_cases q : u = 0
    · rw [if_pos q, if_pos q]
    · rw [if_neg q, if_neg q, c2, c2, c2, if_neg (show ¬ (u - 1 = t ∧ 0 = 1) by omega), if_neg (show ¬ (u = t ∧ 0 = 1) by omega), if_neg (show ¬ (u - 1 = t ∧ 1 = 1) by omega)]
  refine ⟨⟨by rw [zs]; exact h1, fun u x hu => ?_⟩, fun j hj => by rw [zs]; exact h3 j hj, fun j i c q0 q1 => by rw [zo j i c q0 q1]; exact h4 j i c q0 q1, by rw [zF]; exact h5, fun i hi => ?_, fun u hu => ?_⟩
  · rw [c2, c2, c2, c2, if_neg (show ¬ (u = t ∧ 0 = 1) by omega), if_neg (show ¬ (u = t ∧ 2 = 1) by omega), if_neg (show ¬ (u = t ∧ 4 = 1) by omega), if_neg (show ¬ (u = t ∧ 3 = 1) by omega)]
    exact h2 u x hu
  · have tm : tmN Z i t = if i = r then e else 0 := by
      unfold tmN
      rw [c2, c2, c2, if_pos (show t = t ∧ 1 = 1 from ⟨rfl, rfl⟩), if_neg (show ¬ (t = t ∧ 3 = 1) by omega), if_neg (show ¬ (t = t ∧ 2 = 1) by omega), x3, x2, e2]
      by_cases q : i = r
      · rw [if_pos ⟨by rw [q], rfl⟩, if_pos q, nI_clamp (by omega)]
      · rw [if_neg (fun z => q ((nI_eq (by omega) (by omega)).mp z.1).symm), if_neg q]
    rw [osN, os i t (Nat.le_refl _), tm, z6]
    by_cases q : i = r
    · rw [if_pos q, if_pos q, q, h6 r hr, x2, e2, nI_add]
    · rw [if_neg q, if_neg q, h6 i hi, Nat.add_zero]
  · by_cases q : u = t
    · refine ⟨r, hr, by rw [c2, if_pos ⟨q, rfl⟩], hR1, fun x hx' hax hne hnb => ?_⟩
      subst q
      rw [bz u (Nat.le_refl _)] at hnb ⊢
      have e : (fun i => kSN S i + osN Z i u) = (fun i => kSN S i + osN Y i u) := by
        funext i
        rw [os i u (Nat.le_refl _)]
      rw [e]
      exact hR2 x hx' hax hne hnb
    · obtain ⟨r', a1, a2, a3, a4⟩ := h7 u (by omega)
      refine ⟨r', a1, by rw [c2, if_neg (fun z => q z.1)]; exact a2, a3, fun x hx' hax hne hnb => ?_⟩
      rw [bz u (by omega)] at hnb ⊢
      have e : (fun i => kSN S i + osN Z i u) = (fun i => kSN S i + osN Y i u) := by
        funext i
        rw [os i u (by omega)]
      rw [e]
      exact a4 x hx' hax hne hnb
theorem gy_loop {S : HA} {L : List Tr} {n : Nat} (hV : V S n) (hn : n ≤ 900000) (hB : TB L (sz S 1)) (hhere : ∃ r, r < sz S 0 ∧ awayS S (nI r) = 0) : ∀ (k t : Nat) (Y : HA), t + k = L.length → GY S L t Y → GY S L L.length (giveF k t Y)
  | 0, t, Y, hk, h => by
    obtain rfl : t = L.length := by omega
    exact h
  | k + 1, t, Y, hk, h => by
    rw [giveF]
    exact gy_loop hV hn hB hhere k (t + 1) _ (by omega) (gy_step hV hn hB hhere (by omega) h)
-- the order of the tasks
def OrdE (L : List Tr) : Prop := L.Pairwise (fun x y => x.2.1 = y.2.1 → x.1 ≤ y.1)
theorem insF_ord {x : Tr} : ∀ (L : List Tr), SrtD L → OrdE L → (∀ y ∈ L, y.1 ≤ x.1) → OrdE (insF x L)
  | [], _, _, _ => List.pairwise_singleton _ _
  | y :: L, h, h', hm => by
    rw [insF]
    obtain ⟨h1, h2⟩ := List.pairwise_cons.mp h
    obtain ⟨h3, h4⟩ := List.pairwise_cons.mp h'
    split
    · refine List.pairwise_cons.mpr ⟨fun z hz => ?_, insF_ord L h2 h4 (fun z hz => hm z (List.mem_cons_of_mem _ hz))⟩
      rcases insF_mem L hz with e | e
      · rw [e]; exact fun _ => hm y List.mem_cons_self
      · exact h3 z e
    · rename_i q
      refine List.pairwise_cons.mpr ⟨fun z hz e => ?_, h'⟩
      exfalso
      apply q
      rcases List.mem_cons.mp hz with e2 | e2
      · rw [e, e2]; exact Int32.le_refl _
      · rw [e]; exact h1 z e2
theorem insA_ord {v : Int32} : ∀ (l L : List Tr), SrtD L → OrdE L → (∀ x ∈ l, x.1 = v) → (∀ y ∈ L, y.1 ≤ v) → OrdE (insA l L)
  | [], _, _, h, _, _ => h
  | x :: l, L, h, h', h1, h2 => by
    have hx : x.1 = v := h1 x List.mem_cons_self
    refine insA_ord l (insF x L) (insF_srt L h) (insF_ord L h h' (fun y hy => by rw [hx]; exact h2 y hy)) (fun z hz => h1 z (List.mem_cons_of_mem _ hz)) (fun y hy => ?_)
    rcases insF_mem L hy with e | e
    · rw [e, hx]; exact Int32.le_refl _
    · exact h2 y e
theorem IL_ord {S : HA} {F : Nat → Bool} : ∀ n, n < 2 ^ 31 → OrdE (IL S F n)
  | 0, _ => List.Pairwise.nil
  | n + 1, hn => by
    rw [IL]
    split
    · exact IL_ord n (by omega)
    · refine insA_ord (v := nI n) _ _ (IL_srt n) (IL_ord n (by omega)) (fun x hx => (tk_mem hx).1) (fun y hy => ?_)
      obtain ⟨a, h1, -, h2⟩ := IL_mem _ hy
      rw [(tk_mem h2).1]
      exact nI_le (by omega) (by omega)
def dueA (S : HA) : Nat → Int32
  | 0 => 0
  | n + 1 => dueA S n + (if bitS (deepS S (nI n)) = 1 then 2 else bitS (dueS S (nI n)))
theorem due_01 {S : HA} (a : Int32) : dueS S a = 0 ∨ dueS S a = 1 := by
  unfold dueS
  split
  · exact Or.inl rfl
  · split
    · exact Or.inl rfl
    · exact Or.inr rfl
theorem tk_n {S : HA} {n : Nat} : nI (tkL S n).length = (if bitS (deepS S (nI n)) = 1 then 2 else bitS (dueS S (nI n))) := by
  unfold tkL
  rcases deep_bit (S := S) (nI n) with q | q
  · rw [q, if_pos rfl, if_neg (show ¬ bitS 0 = 1 by decide)]
    rcases due_01 (S := S) (nI n) with q2 | q2
    · rw [q2, if_pos rfl]; rfl
    · rw [q2, if_neg (show ¬ (1 : Int32) = 0 by decide)]; rfl
  · rw [q, if_neg (show ¬ (1 : Int32) = 0 by decide), if_pos (show bitS 1 = 1 by decide)]; rfl
theorem dueA_len {S : HA} : ∀ n, dueA S n = nI (IL S (fun _ => false) n).length
  | 0 => rfl
  | n + 1 => by
    rw [dueA, dueA_len n, ← tk_n, IL, if_neg (show ¬ (fun _ : Nat => false) n = true from Bool.false_ne_true), insA_len, nI_add]
theorem dueA_F {S : HA} : ∀ n, dueA (setF S 6 1) n = dueA S n
  | 0 => rfl
  | n + 1 => by
    rw [dueA, dueA, dueA_F n]
    rfl
def anyF (S : HA) : Nat → Int32
  | 0 => 0
  | n + 1 => anyF S n ||| (if bitS (awayS S (nI n)) = 0 then 1 else 0)
theorem any_01 {S : HA} : ∀ n, anyF S n = 0 ∨ anyF S n = 1
  | 0 => Or.inl rfl
  | n + 1 => by
    rw [anyF]
    rcases any_01 (S := S) n with q | q
    · rw [q]; split
      · exact Or.inr rfl
      · exact Or.inl rfl
    · rw [q]; split
      · exact Or.inr rfl
      · exact Or.inr rfl
theorem bit_z {x : Int32} : bitS x = 0 ↔ x = 0 := by
  rw [bitS]
  by_cases q : x = 0
  · rw [if_pos q]; exact ⟨fun _ => q, fun _ => rfl⟩
  · rw [if_neg q]; exact ⟨fun z => absurd z (by decide), fun z => absurd z q⟩
theorem any_iff {S : HA} : ∀ n, ¬ anyF S n = 0 ↔ ∃ r, r < n ∧ awayS S (nI r) = 0
  | 0 => ⟨fun h => absurd rfl h, fun ⟨r, h, _⟩ => absurd h (Nat.not_lt_zero _)⟩
  | n + 1 => by
    have ih := any_iff (S := S) n
    rw [anyF]
    by_cases q : bitS (awayS S (nI n)) = 0
    · rw [if_pos q]
      refine ⟨fun _ => ⟨n, by omega, bit_z.mp q⟩, fun _ => ?_⟩
      rcases any_01 (S := S) n with z | z <;> rw [z] <;> decide
    · rw [if_neg q, Int32.or_zero, ih]
      constructor
      · rintro ⟨r, h1, h2⟩; exact ⟨r, by omega, h2⟩
      · rintro ⟨r, h1, h2⟩
        by_cases e : r = n
        · rw [e] at h2; exact absurd (bit_z.mpr h2) q
        · exact ⟨r, by omega, h2⟩
-- who had the first part
def fsV (Y : HA) : Nat → Nat → Int32
  | 0, _ => -1
  | t + 1, a => if ce Y 2 t 0 = nI a then (if fsV Y t a < 0 then ce Y 2 t 1 else fsV Y t a) else fsV Y t a
theorem fs_no {Y : HA} {a : Nat} : ∀ t, (∀ u, u < t → ¬ ce Y 2 u 0 = nI a) → fsV Y t a = -1
  | 0, _ => rfl
  | t + 1, h => by rw [fsV, if_neg (h t (by omega)), fs_no t (fun u hu => h u (by omega))]
theorem fs_bar {Y : HA} (hT : VT Y) {t a : Nat} (ht : t < sz Y 2) (ha : ce Y 2 t 0 = nI a) : (barV Y t = -6 ∧ fsV Y t a = -1) ∨ ∃ u, t = u + 1 ∧ barV Y t = ce Y 2 u 1 ∧ fsV Y t a = ce Y 2 u 1 ∧ ce Y 2 t 4 = 1 := by
  cases t with
  | zero => exact Or.inl ⟨rfl, rfl⟩
  | succ u =>
    have nx : ∀ v, v < u + 1 → ce Y 2 v 0 = nI a → v = u := fun v hv e => by
      have := (hT.1 v (u + 1) hv ht (e.trans ha.symm)).1
      omega
    unfold barV
    rw [if_neg (show ¬ u + 1 = 0 by omega), show u + 1 - 1 = u from rfl]
    by_cases q : ce Y 2 u 0 = ce Y 2 (u + 1) 0
    · refine Or.inr ⟨u, rfl, by rw [if_pos q], ?_, (hT.1 u (u + 1) (by omega) ht q).2.2⟩
      rw [fsV, if_pos (q.trans ha), fs_no u (fun v hv e => by have := nx v (by omega) e; omega), if_pos (by decide)]
    · refine Or.inl ⟨by rw [if_neg q], fs_no (u + 1) (fun v hv e => ?_)⟩
      have := nx v hv e
      subst this
      exact q (e.trans ha.symm)
def ldV (S Y : HA) (t r : Nat) : Int32 := ce S 0 r 3 + nI (osN Y r t)
def NAh (S Y : HA) (t x r : Nat) : Prop := ¬ ldV S Y t x * ce Y 0 r 0 - ldV S Y t r * ce Y 0 x 0 < 0 ∧ (ldV S Y t x * ce Y 0 r 0 - ldV S Y t r * ce Y 0 x 0 = 0 → ce Y 0 x 4 ≤ ce Y 0 r 4 ∧ (ce Y 0 x 4 = ce Y 0 r 4 → nI r ≤ nI x))
theorem nah_of {S Y : HA} {n t x r : Nat} (hV : V S n) (hn : n ≤ 900000) (hx : x < sz S 0) (hr : r < sz S 0) (h4 : ∀ i c, c ≠ 6 → ce Y 0 i c = ce S 0 i c) (ho : ∀ i, osN Y i t ≤ 720) (h : ¬ Bt (fun i => kSN S i + osN Y i t) (wSN S) (dSN S) x r) : NAh S Y t x r := by
  have hb0 := hV.1.2.1.1
  obtain ⟨⟨w, w1, w2, w3⟩, ⟨k, k1, k2⟩, ⟨k', k3, k4⟩, -⟩ := hV.2.1 x hx
  obtain ⟨⟨v, v1, v2, v3⟩, ⟨m, m1, m2⟩, ⟨m', m3, m4⟩, -⟩ := hV.2.1 r hr
  have ek : kSN S x = k := by rw [kSN, k2, nI_clamp (by omega)]
  have ew : wSN S x = w := by rw [wSN, w3, nI_clamp (by omega)]
  have ed : dSN S x = k' := by rw [dSN, k4, nI_clamp (by omega)]
  have em : kSN S r = m := by rw [kSN, m2, nI_clamp (by omega)]
  have ev : wSN S r = v := by rw [wSN, v3, nI_clamp (by omega)]
  have ef : dSN S r = m' := by rw [dSN, m4, nI_clamp (by omega)]
  unfold Bt at h
  simp only at h
  rw [ek, ew, ed, em, ev, ef] at h
  have o1 := ho x
  have o2 := ho r
  have b1 : (k + osN Y x t) * v ≤ 1000000 * 10 := Nat.mul_le_mul (by omega) v2
  have b2 : (m + osN Y r t) * w ≤ 1000000 * 10 := Nat.mul_le_mul (by omega) w2
  unfold NAh ldV
  rw [h4 r 0 (by decide), h4 x 0 (by decide), h4 r 4 (by decide), h4 x 4 (by decide), k2, m2, w3, v3, k4, m4, nI_add, nI_add, pk_mul, pk_mul, nsub_lt (by omega) (by omega), nsub_z (by omega) (by omega), nI_leI (by omega) (by omega), nI_eq (by omega) (by omega), nI_leI (by omega) (by omega)]
  generalize (k + osN Y x t) * v = A at *
  generalize (m + osN Y r t) * w = B at *
  refine ⟨fun z => h (Or.inl z), fun z => ⟨?_, fun z2 => ?_⟩⟩
  · exact Nat.le_of_not_lt (fun z2 => h (Or.inr ⟨z, Or.inl z2⟩))
  · exact Nat.le_of_not_lt (fun z3 => h (Or.inr ⟨z, Or.inr ⟨z2, z3⟩⟩))
def PT (S Y : HA) (t : Nat) : Prop := ∃ a r, a < sz S 1 ∧ r < sz S 0 ∧ ce Y 2 t 0 = nI a ∧ ce Y 2 t 1 = nI r ∧ ce Y 2 t 3 = 0 ∧ bitS (awayS Y (nI r)) = 0 ∧ (ce Y 2 t 4 = 0 ∨ ce Y 2 t 4 = 1) ∧ bitS (deepS Y (nI a)) = ce Y 2 t 4 ∧
  (ce Y 2 t 2 = if ce Y 2 t 4 = 0 then ce Y 1 a 0 else (ce Y 4 0 2 * ce Y 1 a 0 + 1) / 2) ∧ (∀ u, t = u + 1 → ce Y 2 t 2 ≤ ce Y 2 u 2 ∧ (ce Y 2 t 2 = ce Y 2 u 2 → ce Y 2 u 0 ≤ ce Y 2 t 0)) ∧ (fsV Y t a = -1 ∨ ∃ b, b < sz S 0 ∧ fsV Y t a = nI b ∧ ce Y 2 t 4 = 1) ∧
  ∀ x, x < sz S 0 → ¬ bitS (awayS Y (nI x)) = 1 → x ≠ r → ¬ nI x = fsV Y t a → ¬ nI r = fsV Y t a ∧ NAh S Y t x r
set_option maxHeartbeats 1000000 in
theorem pt_of {S0 S Y : HA} {L : List Tr} {n m t : Nat} (hV : V S0 n) (hn : n ≤ 900000) (hVY : V Y m) (hL : L = IL S0 (fun _ => false) (sz S0 1)) (hB : TB L (sz S0 1)) (h : GY S0 L L.length Y) (hS : S0.1 = S.1) (ht : t < sz Y 2) : PT S Y t := by
  have hos := fun (r u : Nat) (hu : u ≤ L.length) => gy_os hB h (r := r) u hu
  have hl12 := hB.2.1
  obtain ⟨⟨h1, h2⟩, h3, h4, h5, h6, h7⟩ := h
  obtain ⟨hb0, hb1, hb2, hb3⟩ := hV.1.2.1
  have sS : ∀ j, sz S0 j = sz S j := fun j => by unfold sz; rw [hS]
  have cS : ∀ j r c, ce S0 j r c = ce S j r c := fun j r c => by unfold ce; rw [hS]
  rw [h1] at ht
  have hx : L[t]? = some L[t] := List.getElem?_eq_getElem ht
  obtain ⟨x, ex⟩ : ∃ x, L[t] = x := ⟨_, rfl⟩
  rw [ex] at hx
  obtain ⟨x0, x2, x4, x3⟩ := h2 t x hx
  have hm := List.mem_of_getElem? hx
  obtain ⟨r, hr, hw, har, hG⟩ := h7 t ht
  have aw : ∀ i, i < sz S0 0 → awayS Y (nI i) = awayS S0 (nI i) := fun i hi => by
    rw [awayS, awayS, h5, cl1 (by omega), cl1 (by omega), cl2 (by omega), cl2 (by omega), h4 0 i 1 (by decide) (fun _ => by decide), h4 0 i 2 (by decide) (fun _ => by decide)]
  have hmI := hm
  rw [hL] at hmI
  obtain ⟨a, ha, -, hk⟩ := IL_mem _ hmI
  obtain ⟨m1, m2, m3⟩ := tk_mem hk
  have ea : ce Y 2 t 0 = nI a := x0.trans m1
  have dY : deepS Y (nI a) = deepS S0 (nI a) := by
    unfold deepS
    rw [cl3 (by omega), cl3 (by omega), h4 1 a 3 (by decide) (fun z => absurd z (by decide)), show cl Y 4 0 3 = cl S0 4 0 3 from (cl3 (r := 0) (by decide)).trans ((h4 4 0 3 (by decide) (fun z => absurd z (by decide))).trans (cl3 (r := 0) (by decide)).symm)]
  have c1 : ce Y 1 a 0 = cl S0 1 (nI a) 0 := by rw [cl0 (by omega)]; exact h4 1 a 0 (by decide) (fun z => absurd z (by decide))
  have c4 : ce Y 4 0 2 = cl S0 4 0 2 := (h4 4 0 2 (by decide) (fun z => absurd z (by decide))).trans (cl2 (r := 0) (by decide)).symm
  have dd : bitS (deepS S0 (nI a)) = x.2.2 ∧ x.2.1 = if x.2.2 = 0 then cl S0 1 (nI a) 0 else (cl S0 4 0 2 * cl S0 1 (nI a) 0 + 1) / 2 := by
    rw [m2, effS]
    unfold tkL at hk
    by_cases q : deepS S0 (nI a) = 0
    · rw [if_pos q] at hk
      by_cases q2 : dueS S0 (nI a) = 0
      · rw [if_pos q2] at hk; exact absurd hk (List.not_mem_nil)
      · rw [if_neg q2] at hk
        have e : x.2.2 = 0 := by rw [List.mem_singleton.mp hk]
        rw [e, q, if_pos rfl, if_pos rfl, if_neg q2]
        exact ⟨rfl, rfl⟩
    · rw [if_neg q] at hk
      have e : x.2.2 = 1 := by
        rcases List.mem_cons.mp hk with z | z
        · rw [z]
        · rw [List.mem_singleton.mp z]
      rw [e, if_neg q, if_neg (show ¬ (1 : Int32) = 0 by decide), (deep_bit (S := S0) (nI a)).resolve_left q]
      exact ⟨rfl, rfl⟩
  refine ⟨a, r, by rw [← sS]; exact ha, by rw [← sS]; exact hr, ea, hw, x3, by rw [aw r hr, har]; rfl, by rw [x4]; exact m3, by rw [dY, x4]; exact dd.1, by rw [x2, x4, c1, c4]; exact dd.2, fun u hu => ?_, ?_, fun i hi hax hne hnf => ?_⟩
  · have hy : L[u]? = some L[u] := List.getElem?_eq_getElem (by omega)
    obtain ⟨y0, y2, -, -⟩ := h2 u _ hy
    obtain ⟨hut, -⟩ := List.getElem?_eq_some_iff.mp hy
    have p1 := (List.pairwise_iff_getElem.mp (show SrtD L by rw [hL]; exact IL_srt _)) u t hut ht (by omega)
    have p2 := (List.pairwise_iff_getElem.mp (show OrdE L by rw [hL]; exact IL_ord _ (by omega))) u t hut ht (by omega)
    rw [ex] at p1 p2
    rw [x2, y2, x0, y0]
    exact ⟨p1, fun z => p2 z.symm⟩
  · rcases fs_bar hVY.2.2.2.2.1 (by rw [h1]; exact ht) ea with ⟨-, f2⟩ | ⟨u, f5, f1, f2, f3⟩
    · exact Or.inl f2
    · obtain ⟨b, hb, hwb, -⟩ := h7 u (by omega)
      exact Or.inr ⟨b, by rw [← sS]; exact hb, f2.trans hwb, f3⟩
  · rw [← sS] at hi
    have ha0 : awayS S0 (nI i) = 0 := by
      rw [aw i hi] at hax
      by_cases z : awayS S0 (nI i) = 0
      · exact z
      · exact absurd (show bitS (awayS S0 (nI i)) = 1 by rw [bitS, if_neg z]) hax
    have hbf : ∀ j, j < 2 ^ 31 → (nI j = barV Y t ↔ nI j = fsV Y t a) := fun j hj => by
      rcases fs_bar hVY.2.2.2.2.1 (by rw [h1]; exact ht) ea with ⟨f1, f2⟩ | ⟨u, f5, f1, f2, f3⟩
      · rw [f1, f2]
        exact ⟨fun z => absurd z (nI_6 hj), fun z => absurd (show nI j < 0 by rw [z]; decide) (nI_pos hj)⟩
      · rw [f1, f2]
    obtain ⟨g1, g2⟩ := hG i hi ha0 hne (fun z => hnf ((hbf i (by omega)).mp z))
    refine ⟨fun z => g1 ((hbf r (by omega)).mpr z), ?_⟩
    have hna := nah_of (S := S0) (Y := Y) (t := t) hV hn hi hr (fun i c hc => h4 0 i c (by decide) (fun _ => hc)) (fun j => by have := hos j t (by omega); omega) g2
    unfold NAh ldV at hna ⊢
    rw [cS, cS] at hna
    exact hna
set_option maxHeartbeats 1000000 in
theorem plan_facts {S : HA} {n : Nat} (hV : V S n) (hn : n ≤ 900000) (h6 : S.2 6 = 0) : V (planS S) (n + 720) ∧ (planS S).2 = (setF S 6 1).2 ∧ (∀ j, j ≠ 2 → sz (planS S) j = sz S j) ∧ sz S 3 = 0 ∧ nI (sz (planS S) 2) = (if anyF S (sz S 0) = 0 then 0 else dueA S (sz S 1)) ∧ (∀ r c, c ≠ 6 → ce (planS S) 0 r c = ce S 0 r c) ∧ ∀ t, t < sz (planS S) 2 → PT S (planS S) t := by
  have h0 : sz S 2 = 0 := hV.1.1.2 h6
  obtain ⟨-, VY, -, YF⟩ := plan_ok (ed_fS hV.1.2.1) hV h0
  have V0 := v_F6 hV
  obtain ⟨hb0, hb1, hb2, hb3⟩ := hV.1.2.1
  have els : leastS (setF S 6 1) (-6) = leastL (setF S 6 1) (-6) (sz S 0) := leastS6 _
  have aw0 : ∀ i, awayS (setF S 6 1) i = awayS S i := fun i => rfl
  refine ⟨VY, YF, ?_⟩
  by_cases q : leastL (setF S 6 1) (-6) (sz S 0) = -6
  · have eP : planS S = setF S 6 1 := by
      unfold planS
      simp only
      rw [els, if_pos q]
    have hz : anyF S (sz S 0) = 0 := by
      refine Decidable.byContradiction (fun z => ?_)
      obtain ⟨r, hr, har⟩ := (any_iff _).mp z
      rcases least_or (setF S 6 1) (-6) (sz S 0) (by omega) with ⟨-, k⟩ | ⟨m, k1, k2, -⟩
      · exact absurd (k r hr) (free_iff.mpr ⟨nI_6 (by omega), har⟩)
      · rw [k2] at q; exact nI_6 (by omega) q
    rw [eP]
    refine ⟨fun _ _ => rfl, v_no3 hV h0, ?_, fun _ _ _ => rfl, fun t ht => ?_⟩
    · rw [if_pos hz]
      show nI (sz S 2) = 0
      rw [h0]; rfl
    · have ht : t < sz S 2 := ht
      omega
  · have hh : ∃ r, r < sz (setF S 6 1) 0 ∧ awayS (setF S 6 1) (nI r) = 0 := by
      rcases least_or (setF S 6 1) (-6) (sz S 0) (by omega) with ⟨z, -⟩ | ⟨m, m1, m2, m3⟩
      · exact absurd z q
      · exact ⟨m, m1, (free_iff.mp m3).2⟩
    have eP : planS S = giveF (sz (mkS (sz (setF S 6 1) 1) (setF S 6 1) 0) 2) 0 (mkS (sz (setF S 6 1) 1) (setF S 6 1) 0) := by
      unfold planS
      simp only
      rw [els, if_neg q]
    have hnz : ¬ anyF S (sz S 0) = 0 := (any_iff _).mpr hh
    obtain ⟨⟨-, ⟨b0, b1, b2, b3⟩, a3, a4⟩, a5, a6, a7, a8, a9, a10⟩ := id V0
    obtain ⟨mA, mX, mC, mT⟩ : SA (setF S 6 1) (mkS (sz (setF S 6 1) 1) (setF S 6 1) 0) ∧ XR (mkS (sz (setF S 6 1) 1) (setF S 6 1) 0) ([] ++ IL (setF S 6 1) (bitF (nI 0)) (sz (setF S 6 1) 1)) ∧ VC (mkS (sz (setF S 6 1) 1) (setF S 6 1) 0) ∧ TWL (IL (setF S 6 1) (bitF (nI 0)) (sz (setF S 6 1) 1)) :=
      mkS_ok a6 b1 (sz (setF S 6 1) 1) (setF S 6 1) 0 [] (by decide) ⟨fun _ _ => rfl, rfl⟩ ⟨h0, fun t x h => by simp at h⟩ a10 (by rw [List.length_nil]; omega) (cU_le _)
    have hIL : IL (setF S 6 1) (bitF (nI 0)) (sz (setF S 6 1) 1) = IL (setF S 6 1) (fun _ => false) (sz (setF S 6 1) 1) := IL_congr _ (fun i hi => bit0 i (by omega))
    rw [hIL] at mX mT
    rw [List.nil_append] at mX
    have hB := il_tb a6 b1 mT
    obtain ⟨L, hL⟩ : ∃ L, L = IL (setF S 6 1) (fun _ => false) (sz (setF S 6 1) 1) := ⟨_, rfl⟩
    rw [← hL] at mX mT hB
    have hdl : dueA S (sz S 1) = nI L.length := by
      rw [hL]
      rw [← dueA_F]
      exact dueA_len (S := setF S 6 1) (sz S 1)
    rw [eP] at VY ⊢
    generalize mkS (sz (setF S 6 1) 1) (setF S 6 1) 0 = S1 at mA mX mC VY ⊢
    have e2 : sz S1 2 = L.length := mX.1
    rw [e2] at VY ⊢
    have G0 : GY (setF S 6 1) L 0 S1 := ⟨⟨e2, fun u x hx => mX.2 u x hx⟩, fun j hj => by unfold sz; rw [mA.1 j hj], fun j r c h2 _ => by unfold ce; rw [mA.1 j h2], mA.2, fun r hr => by
      show ce S1 0 r 6 = nI 0
      have q := (a5 r hr).2.2.2
      rw [show sz (setF S 6 1) 2 = 0 from h0] at q
      unfold ce
      rw [mA.1 0 (by decide)]
      exact q, fun u hu => absurd hu (Nat.not_lt_zero _)⟩
    have GF := gy_loop V0 hn hB hh L.length 0 S1 (by omega) G0
    generalize giveF L.length 0 S1 = Y at GF VY ⊢
    have s2 := GF.1.1
    refine ⟨GF.2.1, v_no3 hV h0, by rw [s2, if_neg hnz, hdl], fun r c hc => GF.2.2.1 0 r c (by decide) (fun _ => hc), fun t ht => pt_of V0 hn VY hL hB GF rfl ht⟩
theorem x_plan1 {S : HA} {Hs : List HA} {P : PV} (h : bitS (S.2 6) = 1) : xplan S Hs P = (-5, (S, (Hs, P))) := by
  rw [xplan, if_neg (fun z => by rw [z] at h; exact absurd h (by decide))]
theorem x_plan0 {S : HA} {Hs : List HA} {P : PV} (h : S.2 6 = 0) : xplan S Hs P = (nI (sz (planS S) 2), (planS S, (keepL Hs S, P))) := by
  rw [xplan, if_pos h]
  rfl
