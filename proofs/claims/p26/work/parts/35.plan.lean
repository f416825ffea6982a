/-! PLANNING: the tasks go to the same residents -/
theorem least_or (S : HA) (b : Int32) : ∀ n, n < 2 ^ 31 → (leastL S b n = -6 ∧ ∀ r, r < n → freeS S b (nI r) = 0) ∨ ∃ m, m < n ∧ leastL S b n = nI m ∧ ¬ freeS S b (nI m) = 0
  | 0, _ => Or.inl ⟨rfl, fun r h => absurd h (Nat.not_lt_zero _)⟩
  | n + 1, hn => by
    rw [leastL]
    rcases least_or S b n (by omega) with ⟨h1, h2⟩ | ⟨m, h1, h2, h3⟩
    · by_cases q : freeS S b (nI n) = 0
      · rw [if_pos q]
        refine Or.inl ⟨h1, fun r hr => ?_⟩
        by_cases e : r = n
        · rw [e]; exact q
        · exact h2 r (by omega)
      · rw [if_neg q, if_pos h1]
        exact Or.inr ⟨n, by omega, rfl, q⟩
    · have hm6 : ¬ leastL S b n = -6 := fun z => by rw [h2] at z; exact absurd (show nI m < 0 by rw [z]; decide) (nI_pos (by omega))
      by_cases q : freeS S b (nI n) = 0
      · rw [if_pos q]; exact Or.inr ⟨m, by omega, h2, h3⟩
      · rw [if_neg q, if_neg hm6]
        split
        · exact Or.inr ⟨m, by omega, h2, h3⟩
        · exact Or.inr ⟨n, by omega, rfl, q⟩
theorem best_eq {S : HA} {f : Nat → Int32} {nt w : Nat} (hb : sz S 0 ≤ 8) (hO : EO S f) (hw : f 0 = nI w) (hw2 : S.2 5 = nI w) (hw9 : w ≤ 999) (hl : ∀ r, r < sz S 0 → lm f r nt = loadS S (nI r)) (b : Int32) : ∀ n, n ≤ sz S 0 → bestL f b nt n = leastL S b n
  | 0, _ => rfl
  | n + 1, hn => by
    have ih := best_eq hb hO hw hw2 hw9 hl b n (by omega)
    have aw : awayM f n = awayS S (nI n) := by
      rw [awayM, awayS, cl1 (by omega), cl2 (by omega), hw, hw2]
      exact (hO n (by omega)).2.2.2.2 w hw9
    rw [bestL, leastL, ih, aw, freeS]
    by_cases h1 : awayS S (nI n) = 0
    · rw [if_neg (not_not_intro h1)]
      by_cases h2 : nI n = b
      · rw [if_pos h2, if_pos h2, if_pos rfl]
      · rw [if_neg h2, if_neg h2, if_neg (not_not_intro h1), if_neg (show ¬ (1 : Int32) = 0 by decide)]
        rcases least_or S b n (by omega) with ⟨h3, -⟩ | ⟨m, h3, h4, -⟩
        · rw [h3, if_pos (show (-6 : Int32) < 0 by decide), if_pos rfl]
        · have h5 : ¬ nI m = -6 := fun z => absurd (show nI m < 0 by rw [z]; decide) (nI_pos (by omega))
          rw [h4, if_neg (nI_pos (by omega)), if_neg h5, nI_clamp (by omega)]
          have oa : aheadM f n m nt = aheadS S (nI n) (nI m) := by
            rw [aheadM, aheadS, hl n (by omega), hl m (by omega), (hO n (by omega)).1, (hO m (by omega)).1, (hO n (by omega)).2.2.1, (hO m (by omega)).2.2.1, cl0 (by omega), cl0 (by omega), cl4 (by omega), cl4 (by omega)]
            by_cases q : loadS S (nI n) * ce S 0 m 0 = loadS S (nI m) * ce S 0 n 0
            · rw [if_pos q, if_pos q]
              by_cases q2 : ce S 0 n 4 = ce S 0 m 4
              · rw [if_pos q2, if_pos (nI_le (by omega) (by omega)), if_pos (by rw [q2]; exact Int32.le_refl _)]
              · rw [if_neg q2]
            · rw [if_neg q, if_neg q]
          rw [oa]
    · rw [if_pos h1]
      by_cases h2 : nI n = b
      · rw [if_pos h2, if_pos rfl]
      · rw [if_neg h2, if_pos h1, if_pos rfl]
-- the table of a week's tasks
def TB (L : List Tr) (na : Nat) : Prop := TWL L ∧ L.length ≤ 12 ∧ ∀ x ∈ L, (∃ a, a < na ∧ x.1 = nI a) ∧ (∃ e, e ≤ 60 ∧ x.2.1 = nI e) ∧ (x.2.2 = 0 ∨ x.2.2 = 1)
-- between two gifts
def GI (S : HA) (L : List Tr) (t : Nat) (Y : HA) (g : Nat → Int32) : Prop :=
  (sz Y 2 = L.length ∧ ∀ (u : Nat) (x : Tr), L[u]? = some x → ce Y 2 u 0 = x.1 ∧ ce Y 2 u 2 = x.2.1 ∧ ce Y 2 u 4 = x.2.2 ∧ ce Y 2 u 3 = 0 ∧ mk g u 0 = x.1 ∧ mk g u 2 = x.2.1 ∧ mk g u 4 = x.2.2 ∧ mk g u 3 = 0 ∧ mk g u 1 = (if u < t then ce Y 2 u 1 else -6)) ∧
  (∀ j, j ≠ 2 → sz Y j = sz S j) ∧ (∀ j r c, j ≠ 0 → j ≠ 2 → ce Y j r c = ce S j r c) ∧ (∀ r c, c ≠ 6 → ce Y 0 r c = ce S 0 r c) ∧ Y.2 = S.2 ∧ (∀ u, u < t → ∃ r, r < sz S 0 ∧ ce Y 2 u 1 = nI r) ∧ (∀ r, r < sz S 0 → ce Y 0 r 6 = nI (osN Y r t)) ∧ VC Y ∧ (∀ j, j < 90 → g j = (if j = 3 then nI L.length else if j = 4 then 1 else 0) ∨ True) ∧ EO S g ∧ EA S g ∧ ES S g ∧ EG S g ∧ EW S g ∧ g 1 = nI (sz S 0) ∧ g 2 = nI (sz S 1) ∧ g 3 = nI L.length ∧ g 7 = nI (sz S 3)
theorem part_no {L : List Tr} {g : Nat → Int32} {t : Nat} {x : Tr} (hT : TWL L) (hg : ∀ (u : Nat) (y : Tr), L[u]? = some y → mk g u 0 = y.1 ∧ mk g u 4 = y.2.2) (hx : L[t]? = some x) : ∀ n, n ≤ t → (∀ u, u < n → u + 1 ≠ t) → partL g t n = -6
  | 0, _, _ => rfl
  | n + 1, hn, hu => by
    rw [partL, part_no hT hg hx n (by omega) (fun u h => hu u (by omega))]
    have hnl : n < L.length := by have := (List.getElem?_eq_some_iff.mp hx).1; omega
    have hy : L[n]? = some L[n] := List.getElem?_eq_getElem hnl
    split
    · rfl
    · split
      · rfl
      · rename_i q
        have q := Decidable.of_not_not q
        rw [(hg n _ hy).1, (hg t x hx).1] at q
        exact absurd (hT.1 n t _ x (by omega) hy hx q).1.symm (hu n (by omega))
theorem part_eq {S : HA} {L : List Tr} {Y : HA} {g : Nat → Int32} {t : Nat} {x : Tr} (hT : TWL L) (h : GI S L t Y g) (hl : L.length ≤ 12) (hx : L[t]? = some x) : partL g t t = if twinS Y (nI t) = 0 then -6 else ce Y 2 (t - 1) 1 := by
  obtain ⟨⟨h1, h2⟩, -⟩ := h
  have hg : ∀ (u : Nat) (y : Tr), L[u]? = some y → mk g u 0 = y.1 ∧ mk g u 4 = y.2.2 := fun u y hy => ⟨(h2 u y hy).2.2.2.2.1, (h2 u y hy).2.2.2.2.2.2.1⟩
  have htl := (List.getElem?_eq_some_iff.mp hx).1
  cases t with
  | zero => rw [twinS, if_pos (show nI 0 ≤ 0 by decide), if_pos rfl]; rfl
  | succ u =>
    have hy : L[u]? = some L[u] := List.getElem?_eq_getElem (by omega)
    rw [twinS, if_neg (show ¬ nI (u + 1) ≤ 0 from nI_ge (b := u + 1) (a := 0) (by omega) (by omega)), nI_pred, cl0 (by omega), cl0 (by omega), (h2 u _ hy).1, (h2 (u + 1) x hx).1]
    rw [partL, part_no hT hg hx u (by omega) (fun v hv => by omega), (hg u _ hy).1, (hg (u + 1) x hx).1, (hg u _ hy).2, (hg (u + 1) x hx).2]
    by_cases q : L[u].1 = x.1
    · obtain ⟨-, k1, k2⟩ := hT.1 u (u + 1) _ x (by omega) hy hx q
      rw [if_neg (not_not_intro k1), if_neg (not_not_intro q), if_neg (not_not_intro k2), if_neg (not_not_intro q), if_neg (show ¬ (1 : Int32) = 0 by decide)]
      have := (h2 u _ hy).2.2.2.2.2.2.2.2
      rw [if_pos (Nat.lt_succ_self u)] at this
      exact this
    · have e1 : (if ¬ L[u].1 = x.1 then (0 : Int32) else 1) = 0 := if_pos q
      rw [e1, if_pos rfl]
      split
      · rfl
      · rfl
theorem gi_load {S : HA} {L : List Tr} {Y : HA} {g : Nat → Int32} {n t : Nat} (hV : V S n) (h0 : sz S 2 = 0) (hB : TB L (sz S 1)) (h : GI S L t Y g) (ht : t ≤ L.length) {r : Nat} (hr : r < sz S 0) : lm g r L.length = loadS Y (nI r) := by
  obtain ⟨⟨h1, h2⟩, h3, h4, h5, h6, h7, h8, h9, -, hO, -⟩ := h
  have hb := hV.1.2.1.1
  obtain ⟨-, ⟨k, k1, k2⟩, -, -⟩ := hV.2.1 r hr
  have base : mo g r 1 = nI k := by rw [(hO r hr).2.1]; exact k2
  have lo : ∀ u, u ≤ t → lm g r u = nI (k + osN Y r u) := by
    intro u
    induction u with
    | zero => intro _; rw [lm, base]; rfl
    | succ u ih =>
      intro hu
      have hul : u < L.length := by omega
      have hy : L[u]? = some L[u] := List.getElem?_eq_getElem hul
      obtain ⟨g0, g2, g4, g3, m0, m2, m4, m3, m1⟩ := h2 u _ hy
      rw [if_pos (show u < t by omega)] at m1
      obtain ⟨-, ⟨e, e1, e2⟩, -⟩ := hB.2.2 _ (List.mem_of_getElem? hy)
      rw [lm, ih (by omega), m1, m3, m2, osN, tmN, g3, g2, e2, if_neg (show ¬ ¬ (0 : Int32) = 0 by decide)]
      by_cases q : ce Y 2 u 1 = nI r
      · rw [if_neg (not_not_intro q), if_pos ⟨q, rfl⟩, nI_clamp (by omega), nI_add, Nat.add_assoc]
      · rw [if_pos q, if_neg (fun z => q z.1), Int32.add_zero, Nat.add_zero]
  have hi : ∀ d, t + d ≤ L.length → lm g r (t + d) = lm g r t := by
    intro d
    induction d with
    | zero => intro _; rfl
    | succ d ih =>
      intro hd
      have hy : L[t + d]? = some L[t + d] := List.getElem?_eq_getElem (by omega)
      have m1 := (h2 (t + d) _ hy).2.2.2.2.2.2.2.2
      rw [if_neg (by omega)] at m1
      have e : lm g r (t + (d + 1)) = lm g r (t + d) + (if ¬ mk g (t + d) 1 = nI r then 0 else if ¬ mk g (t + d) 3 = 0 then 0 else mk g (t + d) 2) := rfl
      rw [e, ih (by omega), m1, if_pos (fun z : (-6 : Int32) = nI r => absurd (show nI r < 0 by rw [← z]; decide) (nI_pos (by omega))), Int32.add_zero]
  have e := hi (L.length - t) (by omega)
  rw [show t + (L.length - t) = L.length by omega] at e
  rw [e, lo t (Nat.le_refl _), loadS, cl3 (by omega), cl6 (by omega), h5 r 3 (by decide), h8 r hr, k2, nI_add]
theorem gi_step {S : HA} {L : List Tr} {Y : HA} {g : Nat → Int32} {n t w : Nat} (hV : V S n) (h0 : sz S 2 = 0) (hB : TB L (sz S 1)) (hw : S.2 5 = nI w) (hw9 : w ≤ 999) (hhere : ∃ r, r < sz S 0 ∧ awayS S (nI r) = 0) (ht : t < L.length) (h : GI S L t Y g) :
    GI S L (t + 1) (give1 Y (nI t)) (gv1 g (sz S 0) L.length t) := by
  have hx : L[t]? = some L[t] := List.getElem?_eq_getElem ht
  have hl12 := hB.2.1
  have hpe := part_eq hB.1 h hl12 hx
  have hld : ∀ r, r < sz S 0 → lm g r L.length = loadS Y (nI r) := fun r hr => gi_load hV h0 hB h (by omega) hr
  obtain ⟨⟨h1, h2⟩, h3, h4, h5, h6, h7, h8, h9, h10, hO, hA, hS, hG, hW, g1, g2, g3, g7⟩ := h
  obtain ⟨hb0, hb1, hb2, hb3⟩ := hV.1.2.1
  have s0 : sz Y 0 = sz S 0 := h3 0 (by decide)
  have aw : ∀ r, r < sz S 0 → awayS Y (nI r) = awayS S (nI r) := fun r hr => by
    rw [awayS, awayS, h6, cl1 (by omega), cl1 (by omega), cl2 (by omega), cl2 (by omega), h5 r 1 (by decide), h5 r 2 (by decide)]
  have hOY : EO Y g := fun r hr => by
    rw [h5 r 0 (by decide), h5 r 3 (by decide), h5 r 4 (by decide), h5 r 5 (by decide), h5 r 1 (by decide), h5 r 2 (by decide)]
    exact hO r (by rw [← s0]; exact hr)
  have be : ∀ b, bestL g b L.length (sz S 0) = leastL Y b (sz S 0) := fun b => best_eq (by rw [s0]; exact hb0) hOY (by rw [hS.1]; exact hw) (by rw [h6]; exact hw) hw9 (fun r hr => hld r (by rw [← s0]; exact hr)) b _ (by rw [s0]; exact Nat.le_refl _)
  -- the barred one
  generalize hbar : (if twinS Y (nI t) = 0 then (-6 : Int32) else ce Y 2 (t - 1) 1) = bar at hpe
  have hbarX : (if twinS Y (nI t) = 0 then (-6 : Int32) else cl Y 2 (nI t - 1) 1) = bar := by
    rw [← hbar]
    by_cases q : twinS Y (nI t) = 0
    · rw [if_pos q, if_pos q]
    · rw [if_neg q, if_neg q]
      cases t with
      | zero => exact absurd (by rw [twinS, if_pos (by decide)]) q
      | succ u => rw [nI_pred, cl1 (by omega)]; rfl
  -- the one who gets it
  have hwho : ∃ r, r < sz S 0 ∧ leastS Y bar = nI r ∧ (if ¬ bestL g bar L.length (sz S 0) = -6 then bestL g bar L.length (sz S 0) else bestL g (-6) L.length (sz S 0)) = nI r := by
    rw [leastS, s0, be, be]
    rcases least_or Y bar (sz S 0) (by omega) with ⟨k1, k2⟩ | ⟨m, k1, k2, k3⟩
    · obtain ⟨r, hr, har⟩ := hhere
      have fr := k2 r hr
      rw [freeS, aw r hr, har] at fr
      have hrb : nI r = bar := by
        by_cases q : nI r = bar
        · exact q
        · rw [if_neg q, if_neg (show ¬ ¬ (0 : Int32) = 0 by decide)] at fr
          exact absurd fr (by decide)
      rw [k1, if_neg (not_not_intro rfl), if_neg (not_not_intro rfl)]
      refine ⟨r, hr, hrb.symm, ?_⟩
      rcases least_or Y (-6) (sz S 0) (by omega) with ⟨-, k5⟩ | ⟨m, k5, k6, k7⟩
      · have := k5 r hr
        rw [freeS, aw r hr, har, if_neg (fun z => absurd (show nI r < 0 by rw [z]; decide) (nI_pos (by omega))), if_neg (show ¬ ¬ (0 : Int32) = 0 by decide)] at this
        exact absurd this (by decide)
      · rw [k6]
        have hm := k2 m k5
        rw [freeS] at hm k7
        by_cases q : nI m = bar
        · rw [q, hrb]
        · exfalso
          rw [if_neg q] at hm
          apply k7
          rw [if_neg (fun z => absurd (show nI m < 0 by rw [z]; decide) (nI_pos (by omega)))]
          exact hm
    · have hm6 : ¬ nI m = -6 := fun z => absurd (show nI m < 0 by rw [z]; decide) (nI_pos (by omega))
      rw [k2, if_pos hm6, if_pos hm6]
      exact ⟨m, k1, rfl, rfl⟩
  obtain ⟨r, hr, hX, hM⟩ := hwho
  have eg : gv1 g (sz S 0) L.length t = sk g t 1 (nI r) := by rw [gv1, hpe, hM]
  obtain ⟨x0, x2, x4, x3, m0, m2, m4, m3, m1⟩ := h2 t _ hx
  obtain ⟨-, ⟨e, e1, e2⟩, -⟩ := hB.2.2 _ (List.mem_of_getElem? hx)
  have eY : give1 Y (nI t) = Wc (Wc Y 2 t 1 (nI r)) 0 r 6 (ce Y 0 r 6 + ce Y 2 t 2) := by
    unfold give1
    simp only
    rw [hbarX, hX, wc1 (by rw [h1]; exact ht) (by decide) (by omega), inc6 (by rw [sz_W, s0]; exact hr) (by decide) (by rw [sz_W, s0]; omega), cl2 (by omega), ce_W_ne (by decide), ce_W_c (by decide)]
  rw [eg, eY]
  have c2 : ∀ u c, ce (Wc (Wc Y 2 t 1 (nI r)) 0 r 6 (ce Y 0 r 6 + ce Y 2 t 2)) 2 u c = if u = t ∧ c = 1 then nI r else ce Y 2 u c := fun u c => by rw [ce_W_ne (by decide), ce_W]
  refine ⟨⟨by rw [sz_W, sz_W]; exact h1, fun u x hu => ?_⟩, fun j hj => by rw [sz_W, sz_W]; exact h3 j hj, fun j x c q0 q2 => by rw [ce_W_ne q0, ce_W_ne q2]; exact h4 j x c q0 q2, fun x c hc => by rw [ce_W_c hc, ce_W_ne (by decide)]; exact h5 x c hc, h6, fun u hu => ?_, fun x hx' => ?_, ?_, fun _ _ => Or.inr trivial, fun x hx' => ?_, fun a c ha hc => ?_, ⟨?_, ?_, ?_, ?_⟩, fun j hj => ?_, fun s c hs hc => ?_, ?_, ?_, ?_, ?_⟩
  · obtain ⟨y0, y2, y4, y3, n0, n2, n4, n3, n1⟩ := h2 u x hu
    rw [c2, c2, c2, c2, c2, if_neg (show ¬ (u = t ∧ 0 = 1) by omega), if_neg (show ¬ (u = t ∧ 2 = 1) by omega), if_neg (show ¬ (u = t ∧ 4 = 1) by omega), if_neg (show ¬ (u = t ∧ 3 = 1) by omega)]
    rw [mk_sk_ne (by decide) (by decide) (by omega), mk_sk_ne (by decide) (by decide) (by omega), mk_sk_ne (by decide) (by decide) (by omega), mk_sk_ne (by decide) (by decide) (by omega), mk_sk (by decide) (by decide)]
    refine ⟨y0, y2, y4, y3, n0, n2, n4, n3, ?_⟩
    by_cases q : u = t
    · rw [if_pos ⟨q, rfl⟩, if_pos (by omega), if_pos ⟨q, rfl⟩]
    · rw [if_neg (fun z : u = t ∧ 1 = 1 => q z.1), n1]
      by_cases q2 : u < t
      · rw [if_pos q2, if_pos (show u < t + 1 by omega), if_neg (fun z : u = t ∧ 1 = 1 => q z.1)]
      · rw [if_neg q2, if_neg (show ¬ u < t + 1 by omega)]
  · rw [c2]
    by_cases q : u = t
    · rw [if_pos ⟨q, rfl⟩]; exact ⟨r, hr, rfl⟩
    · rw [if_neg (fun z => q z.1)]; exact h7 u (by omega)
  · have os : osN (Wc (Wc Y 2 t 1 (nI r)) 0 r 6 (ce Y 0 r 6 + ce Y 2 t 2)) x t = osN Y x t := osN_congr t (fun u hu => by
      unfold tmN
      rw [c2, c2, c2, if_neg (show ¬ (u = t ∧ 1 = 1) by omega), if_neg (show ¬ (u = t ∧ 3 = 1) by omega), if_neg (show ¬ (u = t ∧ 2 = 1) by omega)])
    have tm : tmN (Wc (Wc Y 2 t 1 (nI r)) 0 r 6 (ce Y 0 r 6 + ce Y 2 t 2)) x t = if x = r then e else 0 := by
      unfold tmN
      rw [c2, c2, c2, if_pos (show t = t ∧ 1 = 1 from ⟨rfl, rfl⟩), if_neg (show ¬ (t = t ∧ 3 = 1) by omega), if_neg (show ¬ (t = t ∧ 2 = 1) by omega), x3, x2, e2]
      by_cases q : x = r
      · rw [if_pos ⟨by rw [q], rfl⟩, if_pos q, nI_clamp (by omega)]
      · rw [if_neg (fun z => q ((nI_eq (by omega) (by omega)).mp z.1).symm), if_neg q]
    rw [osN, os, tm]
    by_cases q : x = r
    · rw [if_pos q, q, ce_W_at, h8 r hr, x2, e2, nI_add]
    · rw [if_neg q, ce_W_r q, ce_W_ne (by decide), h8 x hx', Nat.add_zero]
  · exact vc_W (vc_W h9 (by rw [h1]; exact ht)) (by rw [sz_W, s0]; exact hr)
  · rw [mo_sk (by omega) (by decide), mo_sk (by omega) (by decide), mo_sk (by omega) (by decide), mo_sk (by omega) (by decide), mo_sk (by omega) (by decide), mo_sk (by omega) (by decide)]
    exact hO x hx'
  · rw [ma_sk (by omega) hc]; exact hA a c ha hc
  · rw [sk_lo (by decide)]; exact hS.1
  · rw [sk_lo (by decide)]; exact hS.2.1
  · rw [sk_lo (by decide)]; exact hS.2.2.1
  · rw [sk_lo (by decide)]; exact hS.2.2.2
  · rw [sk_lo (by omega)]; exact hG j hj
  · rw [mw_sk (by omega) (by decide)]; exact hW s c hs hc
  · rw [sk_lo (by decide)]; exact g1
  · rw [sk_lo (by decide)]; exact g2
  · rw [sk_lo (by decide)]; exact g3
  · rw [sk_lo (by decide)]; exact g7
theorem gi_loop {S : HA} {L : List Tr} {n w : Nat} (hV : V S n) (h0 : sz S 2 = 0) (hB : TB L (sz S 1)) (hw : S.2 5 = nI w) (hw9 : w ≤ 999) (hhere : ∃ r, r < sz S 0 ∧ awayS S (nI r) = 0) : ∀ (k t : Nat) (Y : HA) (g : Nat → Int32), t + k = L.length → GI S L t Y g → GI S L L.length (giveF k t Y) (gvM (sz S 0) L.length k t g)
  | 0, t, Y, g, hk, h => by
    obtain rfl : t = L.length := by omega
    exact h
  | k + 1, t, Y, g, hk, h => by
    rw [giveF, gvM]
    exact gi_loop hV h0 hB hw hw9 hhere k (t + 1) _ _ (by omega) (gi_step hV h0 hB hw hw9 hhere (by omega) h)
