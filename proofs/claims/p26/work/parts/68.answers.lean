/-! answers() of the law -/
theorem mul21 (x : Nat) : (2 : Int32) * nI x + 1 = nI (2 * x + 1) := by
  rw [show (2 : Int32) * nI x = nI (2 * x) from pk_mul 2 x, nI_1]
def rowS (S : HA) (s : Nat) : Int32 × Int32 := (ce S 3 s 0, ce S 3 s 1)
def kpL (S : HA) (K : Nat → Bool) (n : Nat) : List (Int32 × Int32) := ((List.range n).filter K).map (rowS S)
theorem kpL_y {S : HA} {K : Nat → Bool} {n : Nat} (h : K n = true) : kpL S K (n + 1) = kpL S K n ++ [rowS S n] := by
  rw [kpL, kpL, List.range_succ, List.filter_append, List.map_append, List.filter_cons_of_pos h]
  rfl
theorem kpL_n {S : HA} {K : Nat → Bool} {n : Nat} (h : K n = false) : kpL S K (n + 1) = kpL S K n := by
  rw [kpL, kpL, List.range_succ, List.filter_append, List.map_append, List.filter_cons_of_neg (by rw [h]; decide)]
  exact List.append_nil _
theorem kpl_y {S : HA} {K : Nat → Bool} {n : Nat} (h : K n = true) : nI (kpL S K (n + 1)).length = nI (kpL S K n).length + 1 := by
  rw [kpL_y h, List.length_append, List.length_singleton, nI_1]
theorem kp_le (S : HA) (K : Nat → Bool) (n : Nat) : (kpL S K n).length ≤ n := by
  rw [kpL, List.length_map]
  have := List.length_filter_le K (List.range n)
  rw [List.length_range] at this
  exact this
def arrF (L : List (Int32 × Int32)) : Nat → Int32 := fun j => match L[j / 2]? with
  | some p => if j % 2 = 0 then p.1 else p.2
  | none => 0
theorem arr_0 : (fun _ => 0 : Nat → Int32) = arrF [] := rfl
theorem arr_s {L : List (Int32 × Int32)} {p : Int32 × Int32} : upd (upd (arrF L) (2 * L.length) p.1) (2 * L.length + 1) p.2 = arrF (L ++ [p]) := by
  funext j
  have hget : ∀ m, (L ++ [p])[m]? = if m < L.length then L[m]? else if m = L.length then some p else none := fun m => by
    by_cases q : m < L.length
    · rw [if_pos q, List.getElem?_append_left q]
    · rw [if_neg q, List.getElem?_append_right (by omega)]
      by_cases q2 : m = L.length
      · rw [if_pos q2, q2, Nat.sub_self]; rfl
      · rw [if_neg q2, List.getElem?_eq_none (by rw [List.length_singleton]; omega)]
  unfold arrF
  by_cases h1 : j = 2 * L.length + 1
  · rw [h1, up_at, hget, if_neg (by omega), if_pos (by omega)]
    show p.2 = if (2 * L.length + 1) % 2 = 0 then p.1 else p.2
    rw [if_neg (by omega)]
  · rw [up_ne h1]
    by_cases h2 : j = 2 * L.length
    · rw [h2, up_at, hget, if_neg (by omega), if_pos (by omega)]
      show p.1 = if (2 * L.length) % 2 = 0 then p.1 else p.2
      rw [if_pos (by omega)]
    · rw [up_ne h2, hget]
      by_cases h3 : j / 2 < L.length
      · rw [if_pos h3]
      · rw [if_neg h3, if_neg (by omega), List.getElem?_eq_none (by omega)]
theorem arr_e0 {L : List (Int32 × Int32)} {m : Nat} {x y : Int32} (h : L[m]? = some (x, y)) : arrF L (2 * m) = x := by
  unfold arrF
  rw [show 2 * m / 2 = m by omega, h]
  exact if_pos (by omega)
theorem arr_e1 {L : List (Int32 × Int32)} {m : Nat} {x y : Int32} (h : L[m]? = some (x, y)) : arrF L (2 * m + 1) = y := by
  unfold arrF
  rw [show (2 * m + 1) / 2 = m by omega, h]
  exact if_neg (by omega)
-- which swaps stay
def wthS (S : HA) (a b : Int32) (s : Nat) : Int32 := if ce S 3 s 0 = a then 1 else if ce S 3 s 1 = a then 1 else if ce S 3 s 0 = b then 1 else if ce S 3 s 1 = b then 1 else 0
theorem wth_a {S : HA} {a b : Int32} {s : Nat} (h : ce S 3 s 0 = a) : wthS S a b s = 1 := if_pos h
theorem wth_b {S : HA} {a b : Int32} {s : Nat} (h : ce S 3 s 1 = a) : wthS S a b s = 1 := by
  rw [wthS]
  split
  · rfl
  · first | rfl | exact if_pos h
theorem wth_c {S : HA} {a b : Int32} {s : Nat} (h : ce S 3 s 0 = b) : wthS S a b s = 1 := by
  rw [wthS]
  split
  · rfl
  · split
    · rfl
    · first | rfl | exact if_pos h
theorem wth_d {S : HA} {a b : Int32} {s : Nat} (h : ce S 3 s 1 = b) : wthS S a b s = 1 := by
  rw [wthS]
  split
  · rfl
  · split
    · rfl
    · split
      · rfl
      · first | rfl | exact if_pos h
theorem wth_n {S : HA} {a b : Int32} {s : Nat} (h1 : ¬ ce S 3 s 0 = a) (h2 : ¬ ce S 3 s 1 = a) (h3 : ¬ ce S 3 s 0 = b) (h4 : ¬ ce S 3 s 1 = b) : wthS S a b s = 0 := by
  rw [wthS, if_neg h1, if_neg h2, if_neg h3, if_neg h4]
def qT (t : Int32) (p : Int32 × Int32) : Bool := !(decide (p.1 = t)) && !(decide (p.2 = t))
def kp0 (_ : HA) (k _ _ : Nat) (i : Nat) : Bool := !(decide (i = k))
def kp1 (S : HA) (_ t0 t1 : Nat) (i : Nat) : Bool := qT (nI t1) (rowS S i) && qT (nI t0) (rowS S i)
theorem kp0_k {S : HA} {k t0 t1 i : Nat} (hi : i < 2 ^ 31) (hk : k < 2 ^ 31) (h : nI i = nI k) : kp0 S k t0 t1 i = false := by
  rw [kp0, decide_eq_true ((nI_eq hi hk).mp h)]; rfl
theorem kp0_y {S : HA} {k t0 t1 i : Nat} (hi : i < 2 ^ 31) (hk : k < 2 ^ 31) (h : ¬ nI i = nI k) : kp0 S k t0 t1 i = true := by
  rw [kp0, decide_eq_false (fun z => h (by rw [z]))]; rfl
theorem qT_iff {t : Int32} {p : Int32 × Int32} : qT t p = true ↔ ¬ p.1 = t ∧ ¬ p.2 = t := by
  rw [qT, Bool.and_eq_true, Bool.not_eq_true', Bool.not_eq_true', decide_eq_false_iff_not, decide_eq_false_iff_not]
theorem kp1_iff {S : HA} {k t0 t1 i : Nat} : kp1 S k t0 t1 i = true ↔ wthS S (nI t0) (nI t1) i = 0 := by
  rw [kp1, Bool.and_eq_true, qT_iff, qT_iff]
  constructor
  · rintro ⟨⟨h3, h4⟩, h1, h2⟩
    exact wth_n h1 h2 h3 h4
  · intro h
    refine ⟨⟨fun z => ?_, fun z => ?_⟩, fun z => ?_, fun z => ?_⟩
    · rw [wth_c z] at h; exact absurd h (by decide)
    · rw [wth_d z] at h; exact absurd h (by decide)
    · rw [wth_a z] at h; exact absurd h (by decide)
    · rw [wth_b z] at h; exact absurd h (by decide)
theorem kp1_n {S : HA} {k t0 t1 i : Nat} (h : ¬ wthS S (nI t0) (nI t1) i = 0) : kp1 S k t0 t1 i = false := by
  cases hb : kp1 S k t0 t1 i with
  | false => rfl
  | true => exact absurd (kp1_iff.mp hb) h
theorem kp1_y {S : HA} {k t0 t1 i : Nat} (_ : i < 2 ^ 31) (_ : k < 2 ^ 31) (_ : ¬ nI i = nI k) (h : wthS S (nI t0) (nI t1) i = 0) : kp1 S k t0 t1 i = true := kp1_iff.mpr h
theorem kp1_k {S : HA} {k t0 t1 i : Nat} (e0 : ce S 3 k 0 = nI t0) (hi : i < 2 ^ 31) (hk : k < 2 ^ 31) (h : nI i = nI k) : kp1 S k t0 t1 i = false := by
  rw [(nI_eq hi hk).mp h]
  refine kp1_n ?_
  rw [wth_a e0]
  decide
-- the table of swaps as a list
def rowsT (T : TV) : List (Int32 × Int32) := (List.range T.1).map (fun s => (T.2 s 0, T.2 s 1))
theorem rows_get {T : TV} {m : Nat} : (rowsT T)[m]? = if m < T.1 then some (T.2 m 0, T.2 m 1) else none := by
  rw [rowsT, List.getElem?_map]
  by_cases h : m < T.1
  · rw [if_pos h, List.getElem?_range h]; rfl
  · rw [if_neg h, List.getElem?_eq_none (by rw [List.length_range]; omega)]; rfl
theorem rows_len {T : TV} : (rowsT T).length = T.1 := by rw [rowsT, List.length_map, List.length_range]
theorem rows_rem {T : TV} {k : Nat} (h : k < T.1) : rowsT (trem T k) = (rowsT T).take k ++ (rowsT T).drop (k + 1) := by
  apply List.ext_getElem?
  intro m
  rw [rows_get, List.getElem?_append, List.length_take, rows_len, List.getElem?_take, List.getElem?_drop, rows_get, rows_get, Nat.min_eq_left (by omega)]
  show (if m < T.1 - 1 then some ((if m < k then T.2 m 0 else T.2 (m + 1) 0), (if m < k then T.2 m 1 else T.2 (m + 1) 1)) else none) = _
  by_cases q : m < k
  · simp only [if_pos q, if_pos (show m < T.1 - 1 by omega), if_pos (show m < T.1 by omega)]
  · rw [show k + 1 + (m - k) = m + 1 by omega]
    by_cases q2 : m + 1 < T.1
    · simp only [if_neg q, if_pos (show m < T.1 - 1 by omega), if_pos q2]
    · simp only [if_neg q, if_neg (show ¬ m < T.1 - 1 by omega), if_neg q2]
theorem rows_drop {t : Int32} : ∀ (k : Nat) (T : TV), k ≤ T.1 → T.1 < 2 ^ 31 → rowsT (dropT t k T) = ((rowsT T).take k).filter (qT t) ++ (rowsT T).drop k
  | 0, T, _, _ => by
    rw [dropT, List.take_zero, List.filter_nil, List.nil_append, List.drop_zero]
  | k + 1, T, hk, h31 => by
    have hg : (rowsT T)[k]? = some (T.2 k 0, T.2 k 1) := by rw [rows_get, if_pos (by omega)]
    have hl : k < (rowsT T).length := by rw [rows_len]; omega
    have hd : (rowsT T).drop k = (T.2 k 0, T.2 k 1) :: (rowsT T).drop (k + 1) := by
      rw [List.drop_eq_getElem_cons hl]
      congr 1
      exact Option.some.inj ((List.getElem?_eq_getElem hl).symm.trans hg)
    have ht : (rowsT T).take (k + 1) = (rowsT T).take k ++ [(T.2 k 0, T.2 k 1)] := by rw [List.take_add_one, hg]; rfl
    have hlk : ((rowsT T).take k).length = k := by rw [List.length_take, rows_len, Nat.min_eq_left (by omega)]
    have t0 : tcell T (nI k) 0 = T.2 k 0 := tcell_nI (c := 0) (by omega) (by decide)
    have t1 : tcell T (nI k) 1 = T.2 k 1 := tcell_nI (c := 1) (by omega) (by decide)
    have hrm : (¬ qT t (T.2 k 0, T.2 k 1) = true) → rowsT (dropT t k (trem T k)) = ((rowsT T).take (k + 1)).filter (qT t) ++ (rowsT T).drop (k + 1) := fun hq => by
      rw [rows_drop k (trem T k) (by show k ≤ T.1 - 1; omega) (by show T.1 - 1 < 2 ^ 31; omega), rows_rem (by omega), List.take_left' hlk, List.drop_left' hlk, ht, List.filter_append, List.filter_cons_of_neg hq, List.filter_nil, List.append_nil]
    have hno : qT t (T.2 k 0, T.2 k 1) = true → rowsT (dropT t k T) = ((rowsT T).take (k + 1)).filter (qT t) ++ (rowsT T).drop (k + 1) := fun hq => by
      rw [rows_drop k T (by omega) h31, ht, List.filter_append, List.filter_cons_of_pos hq, List.filter_nil, hd, List.append_assoc]
      rfl
    rw [dropT, t0, t1]
    by_cases q0 : T.2 k 0 = t
    · rw [if_pos q0]; exact hrm (fun z => (qT_iff.mp z).1 q0)
    · rw [if_neg q0]
      by_cases q1 : T.2 k 1 = t
      · rw [if_neg (not_not_intro q1)]; exact hrm (fun z => (qT_iff.mp z).2 q1)
      · rw [if_pos q1]; exact hno (qT_iff.mpr ⟨q0, q1⟩)
theorem rows_dropS {S : HA} {t : Int32} (h : sz S 3 < 2 ^ 31) : rowsT ((dropS S t).1 3) = (rowsT (S.1 3)).filter (qT t) := by
  rw [dropS, setT_at, rows_drop (sz S 3) (S.1 3) (Nat.le_refl _) h, List.take_of_length_le (by rw [rows_len]; exact Nat.le_refl _), List.drop_eq_nil_of_le (by rw [rows_len]; exact Nat.le_refl _), List.append_nil]
theorem rows_S {S : HA} : rowsT (S.1 3) = (List.range (sz S 3)).map (rowS S) := rfl
theorem rows_of {S S1 : HA} {K : Nat → Bool} {n : Nat} (h : rowsT (S1.1 3) = kpL S K n) : sz S1 3 = (kpL S K n).length ∧ ∀ m, m < (kpL S K n).length → (kpL S K n)[m]? = some (ce S1 3 m 0, ce S1 3 m 1) := by
  have hl : sz S1 3 = (kpL S K n).length := by rw [← h, rows_len]; rfl
  refine ⟨hl, fun m hm => ?_⟩
  rw [← h, rows_get]
  exact if_pos (by rw [← hl] at hm; exact hm)
theorem rng_mem {n i a : Nat} (h : (List.range n)[i]? = some a) : a = i := by
  have hi : i < n := by
    have := (List.getElem?_eq_some_iff.mp h).1
    rw [List.length_range] at this
    exact this
  rw [List.getElem?_range hi] at h
  exact (Option.some.inj h).symm
theorem kp0_rows {S : HA} {k t0 t1 : Nat} (hk : k < sz S 3) : rowsT (trem (S.1 3) k) = kpL S (kp0 S k t0 t1) (sz S 3) := by
  rw [rows_rem hk, rows_S, ← List.map_take, ← List.map_drop, ← List.map_append, kpL]
  congr 1
  have hl : k < (List.range (sz S 3)).length := by rw [List.length_range]; exact hk
  have hsp : List.range (sz S 3) = (List.range (sz S 3)).take k ++ (k :: (List.range (sz S 3)).drop (k + 1)) := by
    have e := List.drop_eq_getElem_cons hl
    rw [List.getElem_range] at e
    rw [← e, List.take_append_drop]
  have f1 : ((List.range (sz S 3)).take k).filter (kp0 S k t0 t1) = (List.range (sz S 3)).take k := by
    rw [List.filter_eq_self]
    intro a ha
    obtain ⟨i, hi⟩ := List.getElem?_of_mem ha
    rw [List.getElem?_take] at hi
    by_cases q : i < k
    · rw [if_pos q] at hi
      have := rng_mem hi
      rw [kp0, decide_eq_false (by omega)]; rfl
    · rw [if_neg q] at hi; cases hi
  have f2 : ((List.range (sz S 3)).drop (k + 1)).filter (kp0 S k t0 t1) = (List.range (sz S 3)).drop (k + 1) := by
    rw [List.filter_eq_self]
    intro a ha
    obtain ⟨i, hi⟩ := List.getElem?_of_mem ha
    rw [List.getElem?_drop] at hi
    have := rng_mem hi
    rw [kp0, decide_eq_false (by omega)]; rfl
  have f3 : ¬ kp0 S k t0 t1 k = true := by rw [kp0, decide_eq_true rfl]; decide
  conv => rhs; rw [hsp]
  rw [List.filter_append, List.filter_cons_of_neg f3, f1, f2]
theorem kp1_rows {S Y : HA} {k t0 t1 : Nat} (h31 : sz S 3 < 2 ^ 31) (h3 : Y.1 3 = S.1 3) : rowsT ((dropS (dropS Y (nI t0)) (nI t1)).1 3) = kpL S (kp1 S k t0 t1) (sz S 3) := by
  have hs : sz Y 3 = sz S 3 := by unfold sz; rw [h3]
  have hl : sz (dropS Y (nI t0)) 3 < 2 ^ 31 := by
    have e : (rowsT ((dropS Y (nI t0)).1 3)).length = sz (dropS Y (nI t0)) 3 := rows_len
    rw [← e, rows_dropS (by rw [hs]; exact h31)]
    have := List.length_filter_le (qT (nI t0)) (rowsT (Y.1 3))
    rw [rows_len] at this
    have e2 : (Y.1 3).1 = sz S 3 := hs
    omega
  rw [rows_dropS hl, rows_dropS (by rw [hs]; exact h31), h3, List.filter_filter, rows_S, List.filter_map, kpL]
  rfl
theorem x_ans0 {S : HA} {Hs : List HA} {P : PV} {k : Nat} (hB : EB S) (hk : k < sz S 3) : xanswer S Hs P (nI k) 0 = (nI (sz (setT S 3 (trem (S.1 3) k)) 3), (setT S 3 (trem (S.1 3) k), (keepL Hs S, P))) := by
  have hb := eb31 hB
  rw [xanswer, if_pos (has_lt hk (by omega)), if_pos (by decide), if_pos (by decide), nI_clamp (by omega), sz_T]
  rfl
theorem x_ans1 {S : HA} {Hs : List HA} {P : PV} {k : Nat} (hB : EB S) (hk : k < sz S 3) : xanswer S Hs P (nI k) 1 = (nI (sz (accS S (nI k)) 3), (accS S (nI k), (keepL Hs S, P))) := by
  have hb := eb31 hB
  rw [xanswer, if_pos (has_lt hk (by omega)), if_pos (by decide), if_neg (by decide)]
  rfl
theorem ans0_facts {S : HA} {n k t0 t1 r0 r1 : Nat} (hV : V S n) (hk : k < sz S 3) (ht0 : t0 < sz S 2) (ht1 : t1 < sz S 2) (e0 : ce S 3 k 0 = nI t0) (e1 : ce S 3 k 1 = nI t1) (o0 : ce S 2 t0 3 = 0) (o1 : ce S 2 t1 3 = 0) (hr0 : r0 < sz S 0) (hr1 : r1 < sz S 0) (hw0 : ce S 2 t0 1 = nI r0) (hw1 : ce S 2 t1 1 = nI r1) :
    V (setT S 3 (trem (S.1 3) k)) (n + 60) ∧ (∀ j, j ≠ 3 → sz (setT S 3 (trem (S.1 3) k)) j = sz S j) ∧ sz (setT S 3 (trem (S.1 3) k)) 3 = (kpL S (kp0 S k t0 t1) (sz S 3)).length ∧ (∀ m, m < (kpL S (kp0 S k t0 t1) (sz S 3)).length → (kpL S (kp0 S k t0 t1) (sz S 3))[m]? = some (ce (setT S 3 (trem (S.1 3) k)) 3 m 0, ce (setT S 3 (trem (S.1 3) k)) 3 m 1)) ∧
    ce (setT S 3 (trem (S.1 3) k)) 2 t0 1 = nI r0 ∧ ce (setT S 3 (trem (S.1 3) k)) 2 t1 1 = nI r1 ∧ (setT S 3 (trem (S.1 3) k)).2 = S.2 := by
  obtain ⟨z3, g3⟩ := rows_of (S1 := setT S 3 (trem (S.1 3) k)) (K := kp0 S k t0 t1) (by rw [setT_at]; exact kp0_rows hk)
  exact ⟨(v_rm hV hk).le (by omega), fun j hj => sz_T_ne hj, z3, g3, by rw [ce_T_ne (by decide)]; exact hw0, by rw [ce_T_ne (by decide)]; exact hw1, rfl⟩
theorem ans1_facts {S : HA} {n k t0 t1 r0 r1 : Nat} (hV : V S n) (hk : k < sz S 3) (ht0 : t0 < sz S 2) (ht1 : t1 < sz S 2) (e0 : ce S 3 k 0 = nI t0) (e1 : ce S 3 k 1 = nI t1) (o0 : ce S 2 t0 3 = 0) (o1 : ce S 2 t1 3 = 0) (hr0 : r0 < sz S 0) (hr1 : r1 < sz S 0) (hw0 : ce S 2 t0 1 = nI r0) (hw1 : ce S 2 t1 1 = nI r1) :
    V (accS S (nI k)) (n + 60) ∧ (∀ j, j ≠ 3 → sz (accS S (nI k)) j = sz S j) ∧ sz (accS S (nI k)) 3 = (kpL S (kp1 S k t0 t1) (sz S 3)).length ∧ (∀ m, m < (kpL S (kp1 S k t0 t1) (sz S 3)).length → (kpL S (kp1 S k t0 t1) (sz S 3))[m]? = some (ce (accS S (nI k)) 3 m 0, ce (accS S (nI k)) 3 m 1)) ∧
    ce (accS S (nI k)) 2 t0 1 = nI r1 ∧ ce (accS S (nI k)) 2 t1 1 = nI r0 ∧ (accS S (nI k)).2 = S.2 := by
  have hB := hV.1.2.1
  have hb := eb31 hB
  have heq := acc_eq hB hk e0 e1 ht0 ht1 hr0 hr1 hw0 hw1
  have VA := v_accN hV ht0 ht1 o0 o1 hr0 hr1 hw0 hw1
  have h3 : (accN S t0 t1 r0 r1 (ce S 2 t1 2 - ce S 2 t0 2)).1 3 = S.1 3 := by
    rw [accN, exT]
    rfl
  have cT : ∀ u c, ce (accS S (nI k)) 2 u c = ce (exT S t0 t1 r0 r1) 2 u c := fun u c => by
    rw [heq, dropS, ce_T_ne (by decide), dropS, ce_T_ne (by decide), accN, ce_W_ne (by decide), ce_W_ne (by decide)]
  obtain ⟨z3, g3⟩ := rows_of (S1 := accS S (nI k)) (K := kp1 S k t0 t1) (n := sz S 3) (by rw [heq]; exact kp1_rows (by omega) h3)
  refine ⟨by rw [heq]; exact v_drop (v_drop VA), fun j hj => ?_, z3, g3, ?_, ?_, ?_⟩
  · rw [heq, dropS, sz_T_ne hj, dropS, sz_T_ne hj, accN, sz_W, sz_W, exT, sz_W, sz_W]
  · rw [cT, exT]
    by_cases q : t0 = t1
    · subst q
      rw [ce_W_at, ← hw0, hw1]
    · rw [ce_W_r q, ce_W_at]
  · rw [cT, exT, ce_W_at]
  · rw [heq]
    rfl
set_option maxHeartbeats 4000000 in
theorem c_L_answers0 (l : Launch) {S : HA} {Hs : List HA} {P : PV} {kk k : Nat} (hJ : J kk (S, (Hs, P))) (hk : k < sz S 3)  : LCon l (RL_ 7 1 12 224) yL_answers cL_answers 11 [vR (7, 0, 0), vI (nI k), vI (0 : Int32)] ((S, (Hs, P)) : XS) (fun v X' => v = 1 ∧ J (kk + 1) X') := by
  refine lcon_of (by decide +kernel) rfl (Nat.le_of_ble_eq_true rfl) (fun B => ?_)
  show GL l (RL_ 7 1 12 224) cL_answers 11 _ (KM (fun v X' => v = 1 ∧ J (kk + 1) X') 1 12) 0 [] B [some (vR (7, 0, 0)), some (vI (nI k)), some (vI (0 : Int32)), none, none, none, none, none, none, none, none] [] ((S, (Hs, P)) : XS) 0 0
  generalize hK : KM (fun v X' => v = 1 ∧ J (kk + 1) X') 1 12 = K
  have hV : V S (720 * kk) := hJ.1
  have hB := hV.1.2.1
  obtain ⟨b0, b1, b2, b3⟩ := id hB
  obtain ⟨t0, ht0, e0, o0⟩ := hV.w k 0 hk (by decide)
  obtain ⟨t1, ht1, e1, o1⟩ := hV.w k 1 hk (by decide)
  obtain ⟨r0, hr0, hw0⟩ := (hV.2.2.2.1 t0 ht0).2.1
  obtain ⟨r1, hr1, hw1⟩ := (hV.2.2.2.1 t1 ht1).2.1
  have hx := x_ans0 (Hs := Hs) (P := P) hB hk
  obtain ⟨V1, z1, z3, g3, w0, w1, q1⟩ := ans0_facts hV hk ht0 ht1 e0 e1 o0 o1 hr0 hr1 hw0 hw1
  obtain ⟨S1, hS1⟩ : ∃ S1, setT S 3 (trem (S.1 3) k) = S1 := ⟨_, rfl⟩
  rw [hS1] at V1 z1 z3 g3 w0 w1 q1 hx
  have hB1 := V1.1.2.1
  have s0 := z1 0 (by decide)
  have s1 := z1 1 (by decide)
  have s2 := z1 2 (by decide)
  have b3' := hB1.2.2.2
  refine l_blk (pc' := 3) (loc' := [some (vR (7, 0, 0)), some (vI (nI k)), some (vI (0 : Int32)), none, none, none, none, none, none, none, none]) (st' := [vI (0 : Int32), vI (nI k), vR (7, 0, 0)]) (B' := B) [(0, .aload_n 0), (1, .iload_n 1), (2, .iconst 0)] (by decide +kernel) rfl rfl ?_
  refine l_callV (nI t0) ((S, (Hs, P)) : XS) [vI (nI k), vI (0 : Int32)] [] vl_RL_110 mi_X4_swap (k_swap l ((r_swap0 hB (show k < sz S 3 by omega)).trans (e0))) rfl rfl rfl ⟨Nat.le_of_ble_eq_true rfl, Nat.le_of_ble_eq_true rfl⟩ rfl (Nat.le_of_ble_eq_true rfl) ⟨Nat.le_of_ble_eq_true rfl, Nat.le_of_ble_eq_true rfl⟩ (by decide +kernel) ?_
  refine l_blk (pc' := 10) (loc' := [some (vR (7, 0, 0)), some (vI (nI k)), some (vI (0 : Int32)), some (vI (nI t0)), none, none, none, none, none, none, none]) (st' := [vI (1 : Int32), vI (nI k), vR (7, 0, 0)]) (B' := B) [(6, .istore_n 3), (7, .aload_n 0), (8, .iload_n 1), (9, .iconst 1)] (by decide +kernel) rfl rfl ?_
  refine l_callV (nI t1) ((S, (Hs, P)) : XS) [vI (nI k), vI (1 : Int32)] [] vl_RL_110 mi_X4_swap (k_swap l ((r_swap1 hB (show k < sz S 3 by omega)).trans (e1))) rfl rfl rfl ⟨Nat.le_of_ble_eq_true rfl, Nat.le_of_ble_eq_true rfl⟩ rfl (Nat.le_of_ble_eq_true rfl) ⟨Nat.le_of_ble_eq_true rfl, Nat.le_of_ble_eq_true rfl⟩ (by decide +kernel) ?_
  refine l_blk (pc' := 18) (loc' := [some (vR (7, 0, 0)), some (vI (nI k)), some (vI (0 : Int32)), some (vI (nI t0)), some (vI (nI t1)), none, none, none, none, none, none]) (st' := [vI (1 : Int32), vI (nI t0), vR (7, 0, 0)]) (B' := B) [(13, .istore 4), (15, .aload_n 0), (16, .iload_n 3), (17, .iconst 1)] (by decide +kernel) rfl rfl ?_
  refine l_callV (nI r0) ((S, (Hs, P)) : XS) [vI (nI t0), vI (1 : Int32)] [] vl_RL_107 mi_X4_task (k_task l ((r_task1 hB (show t0 < sz S 2 by omega)).trans (hw0))) rfl rfl rfl ⟨Nat.le_of_ble_eq_true rfl, Nat.le_of_ble_eq_true rfl⟩ rfl (Nat.le_of_ble_eq_true rfl) ⟨Nat.le_of_ble_eq_true rfl, Nat.le_of_ble_eq_true rfl⟩ (by decide +kernel) ?_
  refine l_blk (pc' := 27) (loc' := [some (vR (7, 0, 0)), some (vI (nI k)), some (vI (0 : Int32)), some (vI (nI t0)), some (vI (nI t1)), some (vI (nI r0)), none, none, none, none, none]) (st' := [vI (1 : Int32), vI (nI t1), vR (7, 0, 0)]) (B' := B) [(21, .istore 5), (23, .aload_n 0), (24, .iload 4), (26, .iconst 1)] (by decide +kernel) rfl rfl ?_
  refine l_callV (nI r1) ((S, (Hs, P)) : XS) [vI (nI t1), vI (1 : Int32)] [] vl_RL_107 mi_X4_task (k_task l ((r_task1 hB (show t1 < sz S 2 by omega)).trans (hw1))) rfl rfl rfl ⟨Nat.le_of_ble_eq_true rfl, Nat.le_of_ble_eq_true rfl⟩ rfl (Nat.le_of_ble_eq_true rfl) ⟨Nat.le_of_ble_eq_true rfl, Nat.le_of_ble_eq_true rfl⟩ (by decide +kernel) ?_
  refine l_blk (pc' := 37) (loc' := [some (vR (7, 0, 0)), some (vI (nI k)), some (vI (0 : Int32)), some (vI (nI t0)), some (vI (nI t1)), some (vI (nI r0)), some (vI (nI r1)), some (vI (0 : Int32)), none, none, none]) (st' := [vI (12 : Int32)]) (B' := B) [(30, .istore 6), (32, .iconst 0), (33, .istore 7), (35, .bipush 12)] (by decide +kernel) rfl rfl ?_
  refine l_new 6 (by rw [← hK]; exact KM_I) rfl rfl (by decide) rfl rfl ⟨Nat.le_of_ble_eq_true rfl, Nat.le_of_ble_eq_true rfl⟩ (by decide +kernel) ?_
  refine l_blk (pc' := 44) (loc' := [some (vR (7, 0, 0)), some (vI (nI k)), some (vI (0 : Int32)), some (vI (nI t0)), some (vI (nI t1)), some (vI (nI r0)), some (vI (nI r1)), some (vI (0 : Int32)), some (vR (9, 6, 0)), some (vI (0 : Int32)), none]) (st' := []) (B' := putB 6 (fun _ => 0) B) [(39, .astore 8), (41, .iconst 0), (42, .istore 9)] (by decide +kernel) rfl rfl ?_
  have lp44 : ∀ (k44 i44 : Nat), i44 ≤ sz S 3 → sz S 3 < i44 + k44 → GL l (RL_ 7 1 12 224) cL_answers 11 (some .boolean) K 44 [6] (putB 6 (arrF (kpL S (kp0 S k t0 t1) i44)) B) [some (vR (7, 0, 0)), some (vI (nI k)), some (vI (0 : Int32)), some (vI (nI t0)), some (vI (nI t1)), some (vI (nI r0)), some (vI (nI r1)), some (vI (nI (kpL S (kp0 S k t0 t1) i44).length)), some (vR (9, 6, 0)), some (vI (nI i44)), none] [] ((S, (Hs, P)) : XS) 1 12 := by
    intro k44
    induction k44 with
    | zero =>
      intro i44 hi44 hk44
      exact absurd hk44 (by omega)
    | succ k44 ih44 =>
      intro i44 hi44 hk44
      refine l_blk (pc' := 49) (loc' := [some (vR (7, 0, 0)), some (vI (nI k)), some (vI (0 : Int32)), some (vI (nI t0)), some (vI (nI t1)), some (vI (nI r0)), some (vI (nI r1)), some (vI (nI (kpL S (kp0 S k t0 t1) i44).length)), some (vR (9, 6, 0)), some (vI (nI i44)), none]) (st' := [vI (7 : Int32), vR (7, 0, 0), vI (nI i44)]) (B' := putB 6 (arrF (kpL S (kp0 S k t0 t1) i44)) B) [(44, .iload 9), (46, .aload_n 0), (47, .bipush 7)] (by decide +kernel) rfl rfl ?_
      refine l_callV (nI (sz S 3)) ((S, (Hs, P)) : XS) [vI (7 : Int32)] [vI (nI i44)] vl_RL_60 mi_X4_count (k_count l (r_count7)) rfl rfl rfl ⟨Nat.le_of_ble_eq_true rfl, Nat.le_of_ble_eq_true rfl⟩ rfl (Nat.le_of_ble_eq_true rfl) ⟨Nat.le_of_ble_eq_true rfl, Nat.le_of_ble_eq_true rfl⟩ (by decide +kernel) ?_
      refine l_icmp_ge (off := 110) (tgt := 162) (by decide +kernel) (by decide) (fun zc52 => ?_) (fun zc52 => ?_)
      · rw [nI_leI (by omega) (by omega)] at zc52
        obtain rfl : i44 = sz S 3 := by omega
        refine l_blk (pc' := 165) (loc' := [some (vR (7, 0, 0)), some (vI (nI k)), some (vI (0 : Int32)), some (vI (nI t0)), some (vI (nI t1)), some (vI (nI r0)), some (vI (nI r1)), some (vI (nI (kpL S (kp0 S k t0 t1) (sz S 3)).length)), some (vR (9, 6, 0)), some (vI (nI (sz S 3))), none]) (st' := [vI (0 : Int32), vI (nI k), vR (7, 0, 0)]) (B' := putB 6 (arrF (kpL S (kp0 S k t0 t1) (sz S 3))) B) [(162, .aload_n 0), (163, .iload_n 1), (164, .iload_n 2)] (by decide +kernel) rfl rfl ?_
        refine l_callV (nI (kpL S (kp0 S k t0 t1) (sz S 3)).length) ((S1, (keepL Hs S, P)) : XS) [vI (nI k), vI (0 : Int32)] [] vl_RL_89 mi_X4_answer (k_answer l (hx.trans (by rw [z3]))) rfl rfl rfl ⟨Nat.le_of_ble_eq_true rfl, Nat.le_of_ble_eq_true rfl⟩ rfl (Nat.le_of_ble_eq_true rfl) ⟨Nat.le_of_ble_eq_true rfl, Nat.le_of_ble_eq_true rfl⟩ (by decide +kernel) ?_
        refine l_blk (pc' := 170) (loc' := [some (vR (7, 0, 0)), some (vI (nI k)), some (vI (0 : Int32)), some (vI (nI t0)), some (vI (nI t1)), some (vI (nI r0)), some (vI (nI r1)), some (vI (nI (kpL S (kp0 S k t0 t1) (sz S 3)).length)), some (vR (9, 6, 0)), some (vI (nI (sz S 3))), none]) (st' := [vI (nI (kpL S (kp0 S k t0 t1) (sz S 3)).length), vI (nI (kpL S (kp0 S k t0 t1) (sz S 3)).length)]) (B' := putB 6 (arrF (kpL S (kp0 S k t0 t1) (sz S 3))) B) [(168, .iload 7)] (by decide +kernel) rfl rfl ?_
        refine l_icmp_ne (off := 57) (tgt := 227) (by decide +kernel) (by decide) (fun zc170 => ?_) (fun zc170 => ?_)
        · exact absurd rfl zc170
        · refine l_blk (pc' := 176) (loc' := [some (vR (7, 0, 0)), some (vI (nI k)), some (vI (0 : Int32)), some (vI (nI t0)), some (vI (nI t1)), some (vI (nI r0)), some (vI (nI r1)), some (vI (nI (kpL S (kp0 S k t0 t1) (sz S 3)).length)), some (vR (9, 6, 0)), some (vI (nI (sz S 3))), none]) (st' := [vI (7 : Int32), vR (7, 0, 0)]) (B' := putB 6 (arrF (kpL S (kp0 S k t0 t1) (sz S 3))) B) [(173, .aload_n 0), (174, .bipush 7)] (by decide +kernel) rfl rfl ?_
          refine l_callV (nI (kpL S (kp0 S k t0 t1) (sz S 3)).length) ((S1, (keepL Hs S, P)) : XS) [vI (7 : Int32)] [] vl_RL_60 mi_X4_count (k_count l ((r_count7).trans (by rw [z3]))) rfl rfl rfl ⟨Nat.le_of_ble_eq_true rfl, Nat.le_of_ble_eq_true rfl⟩ rfl (Nat.le_of_ble_eq_true rfl) ⟨Nat.le_of_ble_eq_true rfl, Nat.le_of_ble_eq_true rfl⟩ (by decide +kernel) ?_
          refine l_blk (pc' := 181) (loc' := [some (vR (7, 0, 0)), some (vI (nI k)), some (vI (0 : Int32)), some (vI (nI t0)), some (vI (nI t1)), some (vI (nI r0)), some (vI (nI r1)), some (vI (nI (kpL S (kp0 S k t0 t1) (sz S 3)).length)), some (vR (9, 6, 0)), some (vI (nI (sz S 3))), none]) (st' := [vI (nI (kpL S (kp0 S k t0 t1) (sz S 3)).length), vI (nI (kpL S (kp0 S k t0 t1) (sz S 3)).length)]) (B' := putB 6 (arrF (kpL S (kp0 S k t0 t1) (sz S 3))) B) [(179, .iload 7)] (by decide +kernel) rfl rfl ?_
          refine l_icmp_ne (off := 46) (tgt := 227) (by decide +kernel) (by decide) (fun zc181 => ?_) (fun zc181 => ?_)
          · exact absurd rfl zc181
          · refine l_blk (pc' := 187) (loc' := [some (vR (7, 0, 0)), some (vI (nI k)), some (vI (0 : Int32)), some (vI (nI t0)), some (vI (nI t1)), some (vI (nI r0)), some (vI (nI r1)), some (vI (nI (kpL S (kp0 S k t0 t1) (sz S 3)).length)), some (vR (9, 6, 0)), some (vI (nI (sz S 3))), none]) (st' := [vI (1 : Int32), vI (nI t0), vR (7, 0, 0)]) (B' := putB 6 (arrF (kpL S (kp0 S k t0 t1) (sz S 3))) B) [(184, .aload_n 0), (185, .iload_n 3), (186, .iconst 1)] (by decide +kernel) rfl rfl ?_
            refine l_callV (nI r0) ((S1, (keepL Hs S, P)) : XS) [vI (nI t0), vI (1 : Int32)] [] vl_RL_107 mi_X4_task (k_task l ((r_task1 hB1 (show t0 < sz S1 2 by omega)).trans (w0))) rfl rfl rfl ⟨Nat.le_of_ble_eq_true rfl, Nat.le_of_ble_eq_true rfl⟩ rfl (Nat.le_of_ble_eq_true rfl) ⟨Nat.le_of_ble_eq_true rfl, Nat.le_of_ble_eq_true rfl⟩ (by decide +kernel) ?_
            refine l_blk (pc' := 192) (loc' := [some (vR (7, 0, 0)), some (vI (nI k)), some (vI (0 : Int32)), some (vI (nI t0)), some (vI (nI t1)), some (vI (nI r0)), some (vI (nI r1)), some (vI (nI (kpL S (kp0 S k t0 t1) (sz S 3)).length)), some (vR (9, 6, 0)), some (vI (nI (sz S 3))), none]) (st' := [vI (1 : Int32), vI (0 : Int32), vI (nI r0)]) (B' := putB 6 (arrF (kpL S (kp0 S k t0 t1) (sz S 3))) B) [(190, .iload_n 2), (191, .iconst 1)] (by decide +kernel) rfl rfl ?_
            refine l_icmp_ne (off := 8) (tgt := 200) (by decide +kernel) (by decide) (fun zc192 => ?_) (fun zc192 => ?_)
            · refine l_blk (pc' := 202) (loc' := [some (vR (7, 0, 0)), some (vI (nI k)), some (vI (0 : Int32)), some (vI (nI t0)), some (vI (nI t1)), some (vI (nI r0)), some (vI (nI r1)), some (vI (nI (kpL S (kp0 S k t0 t1) (sz S 3)).length)), some (vR (9, 6, 0)), some (vI (nI (sz S 3))), none]) (st' := [vI (nI r0), vI (nI r0)]) (B' := putB 6 (arrF (kpL S (kp0 S k t0 t1) (sz S 3))) B) [(200, .iload 5)] (by decide +kernel) rfl rfl ?_
              refine l_icmp_ne (off := 25) (tgt := 227) (by decide +kernel) (by decide) (fun zc202 => ?_) (fun zc202 => ?_)
              · exact absurd rfl zc202
              · refine l_blk (pc' := 209) (loc' := [some (vR (7, 0, 0)), some (vI (nI k)), some (vI (0 : Int32)), some (vI (nI t0)), some (vI (nI t1)), some (vI (nI r0)), some (vI (nI r1)), some (vI (nI (kpL S (kp0 S k t0 t1) (sz S 3)).length)), some (vR (9, 6, 0)), some (vI (nI (sz S 3))), none]) (st' := [vI (1 : Int32), vI (nI t1), vR (7, 0, 0)]) (B' := putB 6 (arrF (kpL S (kp0 S k t0 t1) (sz S 3))) B) [(205, .aload_n 0), (206, .iload 4), (208, .iconst 1)] (by decide +kernel) rfl rfl ?_
                refine l_callV (nI r1) ((S1, (keepL Hs S, P)) : XS) [vI (nI t1), vI (1 : Int32)] [] vl_RL_107 mi_X4_task (k_task l ((r_task1 hB1 (show t1 < sz S1 2 by omega)).trans (w1))) rfl rfl rfl ⟨Nat.le_of_ble_eq_true rfl, Nat.le_of_ble_eq_true rfl⟩ rfl (Nat.le_of_ble_eq_true rfl) ⟨Nat.le_of_ble_eq_true rfl, Nat.le_of_ble_eq_true rfl⟩ (by decide +kernel) ?_
                refine l_blk (pc' := 214) (loc' := [some (vR (7, 0, 0)), some (vI (nI k)), some (vI (0 : Int32)), some (vI (nI t0)), some (vI (nI t1)), some (vI (nI r0)), some (vI (nI r1)), some (vI (nI (kpL S (kp0 S k t0 t1) (sz S 3)).length)), some (vR (9, 6, 0)), some (vI (nI (sz S 3))), none]) (st' := [vI (1 : Int32), vI (0 : Int32), vI (nI r1)]) (B' := putB 6 (arrF (kpL S (kp0 S k t0 t1) (sz S 3))) B) [(212, .iload_n 2), (213, .iconst 1)] (by decide +kernel) rfl rfl ?_
                refine l_icmp_ne (off := 8) (tgt := 222) (by decide +kernel) (by decide) (fun zc214 => ?_) (fun zc214 => ?_)
                · refine l_blk (pc' := 224) (loc' := [some (vR (7, 0, 0)), some (vI (nI k)), some (vI (0 : Int32)), some (vI (nI t0)), some (vI (nI t1)), some (vI (nI r0)), some (vI (nI r1)), some (vI (nI (kpL S (kp0 S k t0 t1) (sz S 3)).length)), some (vR (9, 6, 0)), some (vI (nI (sz S 3))), none]) (st' := [vI (nI r1), vI (nI r1)]) (B' := putB 6 (arrF (kpL S (kp0 S k t0 t1) (sz S 3))) B) [(222, .iload 6)] (by decide +kernel) rfl rfl ?_
                  refine l_icmp_eq (off := 5) (tgt := 229) (by decide +kernel) (by decide) (fun zc224 => ?_) (fun zc224 => ?_)
                  · refine l_blk (pc' := 232) (loc' := [some (vR (7, 0, 0)), some (vI (nI k)), some (vI (0 : Int32)), some (vI (nI t0)), some (vI (nI t1)), some (vI (nI r0)), some (vI (nI r1)), some (vI (nI (kpL S (kp0 S k t0 t1) (sz S 3)).length)), some (vR (9, 6, 0)), some (vI (0 : Int32)), none]) (st' := []) (B' := putB 6 (arrF (kpL S (kp0 S k t0 t1) (sz S 3))) B) [(229, .iconst 0), (230, .istore 9)] (by decide +kernel) rfl rfl ?_
                    have lp232 : ∀ (k232 i232 : Nat), i232 ≤ (kpL S (kp0 S k t0 t1) (sz S 3)).length → (kpL S (kp0 S k t0 t1) (sz S 3)).length < i232 + k232 → GL l (RL_ 7 1 12 224) cL_answers 11 (some .boolean) K 232 [6] (putB 6 (arrF (kpL S (kp0 S k t0 t1) (sz S 3))) B) [some (vR (7, 0, 0)), some (vI (nI k)), some (vI (0 : Int32)), some (vI (nI t0)), some (vI (nI t1)), some (vI (nI r0)), some (vI (nI r1)), some (vI (nI (kpL S (kp0 S k t0 t1) (sz S 3)).length)), some (vR (9, 6, 0)), some (vI (nI i232)), none] [] ((S1, (keepL Hs S, P)) : XS) 1 12 := by
                      intro k232
                      induction k232 with
                      | zero =>
                        intro i232 hi232 hk232
                        exact absurd hk232 (by omega)
                      | succ k232 ih232 =>
                        intro i232 hi232 hk232
                        refine l_blk (pc' := 236) (loc' := [some (vR (7, 0, 0)), some (vI (nI k)), some (vI (0 : Int32)), some (vI (nI t0)), some (vI (nI t1)), some (vI (nI r0)), some (vI (nI r1)), some (vI (nI (kpL S (kp0 S k t0 t1) (sz S 3)).length)), some (vR (9, 6, 0)), some (vI (nI i232)), none]) (st' := [vI (nI (kpL S (kp0 S k t0 t1) (sz S 3)).length), vI (nI i232)]) (B' := putB 6 (arrF (kpL S (kp0 S k t0 t1) (sz S 3))) B) [(232, .iload 9), (234, .iload 7)] (by decide +kernel) rfl rfl ?_
                        refine l_icmp_ge (off := 47) (tgt := 283) (by decide +kernel) (by decide) (fun zc236 => ?_) (fun zc236 => ?_)
                        · rw [nI_leI (by omega) (by omega)] at zc236
                          obtain rfl : i232 = (kpL S (kp0 S k t0 t1) (sz S 3)).length := by omega
                          refine l_blk (pc' := 284) (loc' := [some (vR (7, 0, 0)), some (vI (nI k)), some (vI (0 : Int32)), some (vI (nI t0)), some (vI (nI t1)), some (vI (nI r0)), some (vI (nI r1)), some (vI (nI (kpL S (kp0 S k t0 t1) (sz S 3)).length)), some (vR (9, 6, 0)), some (vI (nI ((kpL S (kp0 S k t0 t1) (sz S 3)).length))), none]) (st' := [vI (1 : Int32)]) (B' := putB 6 (arrF (kpL S (kp0 S k t0 t1) (sz S 3))) B) [(283, .iconst 1)] (by decide +kernel) rfl rfl ?_
                          subst hK
                          exact l_zret ⟨Nat.le_of_ble_eq_true rfl, Nat.le_of_ble_eq_true rfl⟩ (Or.inr rfl) (⟨rfl, hJ.of (V1.le (by omega)) s0 s1 (congrFun q1 5)⟩) (by decide +kernel)
                        · rw [nI_leI (by omega) (by omega)] at zc236
                          refine l_blk (pc' := 243) (loc' := [some (vR (7, 0, 0)), some (vI (nI k)), some (vI (0 : Int32)), some (vI (nI t0)), some (vI (nI t1)), some (vI (nI r0)), some (vI (nI r1)), some (vI (nI (kpL S (kp0 S k t0 t1) (sz S 3)).length)), some (vR (9, 6, 0)), some (vI (nI i232)), none]) (st' := [vI (0 : Int32), vI (nI i232), vR (7, 0, 0)]) (B' := putB 6 (arrF (kpL S (kp0 S k t0 t1) (sz S 3))) B) [(239, .aload_n 0), (240, .iload 9), (242, .iconst 0)] (by decide +kernel) rfl rfl ?_
                          refine l_callV (ce S1 3 i232 0) ((S1, (keepL Hs S, P)) : XS) [vI (nI i232), vI (0 : Int32)] [] vl_RL_110 mi_X4_swap (k_swap l (r_swap0 hB1 (show i232 < sz S1 3 by omega))) rfl rfl rfl ⟨Nat.le_of_ble_eq_true rfl, Nat.le_of_ble_eq_true rfl⟩ rfl (Nat.le_of_ble_eq_true rfl) ⟨Nat.le_of_ble_eq_true rfl, Nat.le_of_ble_eq_true rfl⟩ (by decide +kernel) ?_
                          refine l_blk (pc' := 252) (loc' := [some (vR (7, 0, 0)), some (vI (nI k)), some (vI (0 : Int32)), some (vI (nI t0)), some (vI (nI t1)), some (vI (nI r0)), some (vI (nI r1)), some (vI (nI (kpL S (kp0 S k t0 t1) (sz S 3)).length)), some (vR (9, 6, 0)), some (vI (nI i232)), none]) (st' := [vI ((2 : Int32) * (nI i232)), vR (9, 6, 0), vI (ce S1 3 i232 0)]) (B' := putB 6 (arrF (kpL S (kp0 S k t0 t1) (sz S 3))) B) [(246, .aload 8), (248, .iconst 2), (249, .iload 9), (251, .imul)] (by decide +kernel) rfl rfl ?_
                          refine l_eq (st' := [vI (nI (2 * i232)), vR (9, 6, 0), vI (ce S1 3 i232 0)]) rfl rfl (congrArg (fun z => [vI z, vR (9, 6, 0), vI (ce S1 3 i232 0)]) (pk_mul 2 _)) rfl rfl ?_
                          refine l_ald 6 (i := 2 * i232) (v := ce S1 3 i232 0) (by decide) (show 2 * i232 < 12 by omega) (arr_e0 (g3 i232 (by omega))) (by decide +kernel) ?_
                          refine l_icmp_ne (off := 22) (tgt := 275) (by decide +kernel) (by decide) (fun zc253 => ?_) (fun zc253 => ?_)
                          · exact absurd rfl zc253
                          · refine l_blk (pc' := 260) (loc' := [some (vR (7, 0, 0)), some (vI (nI k)), some (vI (0 : Int32)), some (vI (nI t0)), some (vI (nI t1)), some (vI (nI r0)), some (vI (nI r1)), some (vI (nI (kpL S (kp0 S k t0 t1) (sz S 3)).length)), some (vR (9, 6, 0)), some (vI (nI i232)), none]) (st' := [vI (1 : Int32), vI (nI i232), vR (7, 0, 0)]) (B' := putB 6 (arrF (kpL S (kp0 S k t0 t1) (sz S 3))) B) [(256, .aload_n 0), (257, .iload 9), (259, .iconst 1)] (by decide +kernel) rfl rfl ?_
                            refine l_callV (ce S1 3 i232 1) ((S1, (keepL Hs S, P)) : XS) [vI (nI i232), vI (1 : Int32)] [] vl_RL_110 mi_X4_swap (k_swap l (r_swap1 hB1 (show i232 < sz S1 3 by omega))) rfl rfl rfl ⟨Nat.le_of_ble_eq_true rfl, Nat.le_of_ble_eq_true rfl⟩ rfl (Nat.le_of_ble_eq_true rfl) ⟨Nat.le_of_ble_eq_true rfl, Nat.le_of_ble_eq_true rfl⟩ (by decide +kernel) ?_
                            refine l_blk (pc' := 271) (loc' := [some (vR (7, 0, 0)), some (vI (nI k)), some (vI (0 : Int32)), some (vI (nI t0)), some (vI (nI t1)), some (vI (nI r0)), some (vI (nI r1)), some (vI (nI (kpL S (kp0 S k t0 t1) (sz S 3)).length)), some (vR (9, 6, 0)), some (vI (nI i232)), none]) (st' := [vI (((2 : Int32) * (nI i232)) + (1 : Int32)), vR (9, 6, 0), vI (ce S1 3 i232 1)]) (B' := putB 6 (arrF (kpL S (kp0 S k t0 t1) (sz S 3))) B) [(263, .aload 8), (265, .iconst 2), (266, .iload 9), (268, .imul), (269, .iconst 1), (270, .iadd)] (by decide +kernel) rfl rfl ?_
                            refine l_eq (st' := [vI (nI (2 * i232 + 1)), vR (9, 6, 0), vI (ce S1 3 i232 1)]) rfl rfl (congrArg (fun z => [vI z, vR (9, 6, 0), vI (ce S1 3 i232 1)]) (mul21 _)) rfl rfl ?_
                            refine l_ald 6 (i := 2 * i232 + 1) (v := ce S1 3 i232 1) (by decide) (show 2 * i232 + 1 < 12 by omega) (arr_e1 (g3 i232 (by omega))) (by decide +kernel) ?_
                            refine l_icmp_eq (off := 5) (tgt := 277) (by decide +kernel) (by decide) (fun zc272 => ?_) (fun zc272 => ?_)
                            · refine l_blk (pc' := 232) (loc' := [some (vR (7, 0, 0)), some (vI (nI k)), some (vI (0 : Int32)), some (vI (nI t0)), some (vI (nI t1)), some (vI (nI r0)), some (vI (nI r1)), some (vI (nI (kpL S (kp0 S k t0 t1) (sz S 3)).length)), some (vR (9, 6, 0)), some (vI ((nI i232) + (1 : Int32))), none]) (st' := []) (B' := putB 6 (arrF (kpL S (kp0 S k t0 t1) (sz S 3))) B) [(277, .iinc 9 1), (280, .goto (-48))] (by decide +kernel) rfl rfl ?_
                              exact l_sub (loc' := [some (vR (7, 0, 0)), some (vI (nI k)), some (vI (0 : Int32)), some (vI (nI t0)), some (vI (nI t1)), some (vI (nI r0)), some (vI (nI r1)), some (vI (nI (kpL S (kp0 S k t0 t1) (sz S 3)).length)), some (vR (9, 6, 0)), some (vI (nI (i232 + 1))), none]) ⟨Or.inr rfl, ⟨Or.inr rfl, ⟨Or.inr rfl, ⟨Or.inr rfl, ⟨Or.inr rfl, ⟨Or.inr rfl, ⟨Or.inr rfl, ⟨Or.inr rfl, ⟨Or.inr rfl, ⟨Or.inr (congrArg (fun z => some (vI z)) (nI_1 _).symm), ⟨Or.inr rfl, trivial⟩⟩⟩⟩⟩⟩⟩⟩⟩⟩⟩ (ih232 (i232 + 1) (by omega) (by omega))
                            · exact absurd rfl zc272
                    exact l_sub (loc' := [some (vR (7, 0, 0)), some (vI (nI k)), some (vI (0 : Int32)), some (vI (nI t0)), some (vI (nI t1)), some (vI (nI r0)), some (vI (nI r1)), some (vI (nI (kpL S (kp0 S k t0 t1) (sz S 3)).length)), some (vR (9, 6, 0)), some (vI (nI 0)), none]) ⟨Or.inr rfl, ⟨Or.inr rfl, ⟨Or.inr rfl, ⟨Or.inr rfl, ⟨Or.inr rfl, ⟨Or.inr rfl, ⟨Or.inr rfl, ⟨Or.inr rfl, ⟨Or.inr rfl, ⟨Or.inr rfl, ⟨Or.inr rfl, trivial⟩⟩⟩⟩⟩⟩⟩⟩⟩⟩⟩ (lp232 ((kpL S (kp0 S k t0 t1) (sz S 3)).length + 1) 0 (by omega) (by omega))
                  · exact absurd rfl zc224
                · exact absurd zc214 (by decide)
            · exact absurd zc192 (by decide)
      · rw [nI_leI (by omega) (by omega)] at zc52
        have hl44 := kp_le S (kp0 S k t0 t1) i44
        refine l_blk (pc' := 59) (loc' := [some (vR (7, 0, 0)), some (vI (nI k)), some (vI (0 : Int32)), some (vI (nI t0)), some (vI (nI t1)), some (vI (nI r0)), some (vI (nI r1)), some (vI (nI (kpL S (kp0 S k t0 t1) i44).length)), some (vR (9, 6, 0)), some (vI (nI i44)), none]) (st' := [vI (0 : Int32), vI (nI i44), vR (7, 0, 0)]) (B' := putB 6 (arrF (kpL S (kp0 S k t0 t1) i44)) B) [(55, .aload_n 0), (56, .iload 9), (58, .iconst 0)] (by decide +kernel) rfl rfl ?_
        refine l_callV (ce S 3 i44 0) ((S, (Hs, P)) : XS) [vI (nI i44), vI (0 : Int32)] [] vl_RL_110 mi_X4_swap (k_swap l (r_swap0 hB (show i44 < sz S 3 by omega))) rfl rfl rfl ⟨Nat.le_of_ble_eq_true rfl, Nat.le_of_ble_eq_true rfl⟩ rfl (Nat.le_of_ble_eq_true rfl) ⟨Nat.le_of_ble_eq_true rfl, Nat.le_of_ble_eq_true rfl⟩ (by decide +kernel) ?_
        refine l_blk (pc' := 63) (loc' := [some (vR (7, 0, 0)), some (vI (nI k)), some (vI (0 : Int32)), some (vI (nI t0)), some (vI (nI t1)), some (vI (nI r0)), some (vI (nI r1)), some (vI (nI (kpL S (kp0 S k t0 t1) i44).length)), some (vR (9, 6, 0)), some (vI (nI i44)), none]) (st' := [vI (nI t0), vI (ce S 3 i44 0)]) (B' := putB 6 (arrF (kpL S (kp0 S k t0 t1) i44)) B) [(62, .iload_n 3)] (by decide +kernel) rfl rfl ?_
        have hm63 : GL l (RL_ 7 1 12 224) cL_answers 11 (some .boolean) K 106 [6] (putB 6 (arrF (kpL S (kp0 S k t0 t1) i44)) B) [some (vR (7, 0, 0)), some (vI (nI k)), some (vI (0 : Int32)), some (vI (nI t0)), some (vI (nI t1)), some (vI (nI r0)), some (vI (nI r1)), some (vI (nI (kpL S (kp0 S k t0 t1) i44).length)), some (vR (9, 6, 0)), some (vI (nI i44)), none] [vI (wthS S (nI t0) (nI t1) i44)] ((S, (Hs, P)) : XS) 1 12 := by
          refine l_blk (pc' := 111) (loc' := [some (vR (7, 0, 0)), some (vI (nI k)), some (vI (0 : Int32)), some (vI (nI t0)), some (vI (nI t1)), some (vI (nI r0)), some (vI (nI r1)), some (vI (nI (kpL S (kp0 S k t0 t1) i44).length)), some (vR (9, 6, 0)), some (vI (nI i44)), some (vI (wthS S (nI t0) (nI t1) i44))]) (st' := [vI (nI k), vI (nI i44)]) (B' := putB 6 (arrF (kpL S (kp0 S k t0 t1) i44)) B) [(106, .istore 10), (108, .iload 9), (110, .iload_n 1)] (by decide +kernel) rfl rfl ?_
          refine l_icmp_eq (off := 45) (tgt := 156) (by decide +kernel) (by decide) (fun zc111 => ?_) (fun zc111 => ?_)
          · refine l_blk (pc' := 44) (loc' := [some (vR (7, 0, 0)), some (vI (nI k)), some (vI (0 : Int32)), some (vI (nI t0)), some (vI (nI t1)), some (vI (nI r0)), some (vI (nI r1)), some (vI (nI (kpL S (kp0 S k t0 t1) i44).length)), some (vR (9, 6, 0)), some (vI ((nI i44) + (1 : Int32))), some (vI (wthS S (nI t0) (nI t1) i44))]) (st' := []) (B' := putB 6 (arrF (kpL S (kp0 S k t0 t1) i44)) B) [(156, .iinc 9 1), (159, .goto (-115))] (by decide +kernel) rfl rfl ?_
            refine l_eq (B' := putB 6 (arrF (kpL S (kp0 S k t0 t1) (i44 + 1))) B) rfl rfl rfl (putB_c (congrArg arrF (kpL_n (kp0_k (by omega) (by omega) zc111)).symm) (rfl)) rfl ?_
            exact l_sub (loc' := [some (vR (7, 0, 0)), some (vI (nI k)), some (vI (0 : Int32)), some (vI (nI t0)), some (vI (nI t1)), some (vI (nI r0)), some (vI (nI r1)), some (vI (nI (kpL S (kp0 S k t0 t1) (i44 + 1)).length)), some (vR (9, 6, 0)), some (vI (nI (i44 + 1))), none]) ⟨Or.inr rfl, ⟨Or.inr rfl, ⟨Or.inr rfl, ⟨Or.inr rfl, ⟨Or.inr rfl, ⟨Or.inr rfl, ⟨Or.inr rfl, ⟨Or.inr (congrArg (fun z => some (vI z)) (congrArg (fun z => nI z.length) (kpL_n (kp0_k (by omega) (by omega) zc111)))), ⟨Or.inr rfl, ⟨Or.inr (congrArg (fun z => some (vI z)) (nI_1 _).symm), ⟨Or.inl rfl, trivial⟩⟩⟩⟩⟩⟩⟩⟩⟩⟩⟩ (ih44 (i44 + 1) (by omega) (by omega))
          · refine l_blk (pc' := 115) (loc' := [some (vR (7, 0, 0)), some (vI (nI k)), some (vI (0 : Int32)), some (vI (nI t0)), some (vI (nI t1)), some (vI (nI r0)), some (vI (nI r1)), some (vI (nI (kpL S (kp0 S k t0 t1) i44).length)), some (vR (9, 6, 0)), some (vI (nI i44)), some (vI (wthS S (nI t0) (nI t1) i44))]) (st' := [vI (0 : Int32)]) (B' := putB 6 (arrF (kpL S (kp0 S k t0 t1) i44)) B) [(114, .iload_n 2)] (by decide +kernel) rfl rfl ?_
            refine l_if_eq (off := 8) (tgt := 123) (by decide +kernel) (by decide) (fun zc115 => ?_) (fun zc115 => ?_)
            · refine l_blk (pc' := 133) (loc' := [some (vR (7, 0, 0)), some (vI (nI k)), some (vI (0 : Int32)), some (vI (nI t0)), some (vI (nI t1)), some (vI (nI r0)), some (vI (nI r1)), some (vI (nI (kpL S (kp0 S k t0 t1) i44).length)), some (vR (9, 6, 0)), some (vI (nI i44)), some (vI (wthS S (nI t0) (nI t1) i44))]) (st' := [vI (0 : Int32), vI (nI i44), vR (7, 0, 0), vI ((2 : Int32) * (nI (kpL S (kp0 S k t0 t1) i44).length)), vR (9, 6, 0)]) (B' := putB 6 (arrF (kpL S (kp0 S k t0 t1) i44)) B) [(123, .aload 8), (125, .iconst 2), (126, .iload 7), (128, .imul), (129, .aload_n 0), (130, .iload 9), (132, .iconst 0)] (by decide +kernel) rfl rfl ?_
              refine l_callV (ce S 3 i44 0) ((S, (Hs, P)) : XS) [vI (nI i44), vI (0 : Int32)] [vI ((2 : Int32) * (nI (kpL S (kp0 S k t0 t1) i44).length)), vR (9, 6, 0)] vl_RL_110 mi_X4_swap (k_swap l (r_swap0 hB (show i44 < sz S 3 by omega))) rfl rfl rfl ⟨Nat.le_of_ble_eq_true rfl, Nat.le_of_ble_eq_true rfl⟩ rfl (Nat.le_of_ble_eq_true rfl) ⟨Nat.le_of_ble_eq_true rfl, Nat.le_of_ble_eq_true rfl⟩ (by decide +kernel) ?_
              refine l_eq (st' := [vI (ce S 3 i44 0), vI (nI (2 * (kpL S (kp0 S k t0 t1) i44).length)), vR (9, 6, 0)]) rfl rfl (congrArg (fun z => [vI (ce S 3 i44 0), vI z, vR (9, 6, 0)]) (pk_mul 2 _)) rfl rfl ?_
              refine l_ast 6 (i := 2 * (kpL S (kp0 S k t0 t1) i44).length) (B' := putB 6 (upd (arrF (kpL S (kp0 S k t0 t1) i44)) (2 * (kpL S (kp0 S k t0 t1) i44).length) (ce S 3 i44 0)) B) (by decide) (show 2 * (kpL S (kp0 S k t0 t1) i44).length < 12 by omega) (updB_hd) (by decide +kernel) ?_
              refine l_blk (pc' := 149) (loc' := [some (vR (7, 0, 0)), some (vI (nI k)), some (vI (0 : Int32)), some (vI (nI t0)), some (vI (nI t1)), some (vI (nI r0)), some (vI (nI r1)), some (vI (nI (kpL S (kp0 S k t0 t1) i44).length)), some (vR (9, 6, 0)), some (vI (nI i44)), some (vI (wthS S (nI t0) (nI t1) i44))]) (st' := [vI (1 : Int32), vI (nI i44), vR (7, 0, 0), vI (((2 : Int32) * (nI (kpL S (kp0 S k t0 t1) i44).length)) + (1 : Int32)), vR (9, 6, 0)]) (B' := putB 6 (upd (arrF (kpL S (kp0 S k t0 t1) i44)) (2 * (kpL S (kp0 S k t0 t1) i44).length) (ce S 3 i44 0)) B) [(137, .aload 8), (139, .iconst 2), (140, .iload 7), (142, .imul), (143, .iconst 1), (144, .iadd), (145, .aload_n 0), (146, .iload 9), (148, .iconst 1)] (by decide +kernel) rfl rfl ?_
              refine l_callV (ce S 3 i44 1) ((S, (Hs, P)) : XS) [vI (nI i44), vI (1 : Int32)] [vI (((2 : Int32) * (nI (kpL S (kp0 S k t0 t1) i44).length)) + (1 : Int32)), vR (9, 6, 0)] vl_RL_110 mi_X4_swap (k_swap l (r_swap1 hB (show i44 < sz S 3 by omega))) rfl rfl rfl ⟨Nat.le_of_ble_eq_true rfl, Nat.le_of_ble_eq_true rfl⟩ rfl (Nat.le_of_ble_eq_true rfl) ⟨Nat.le_of_ble_eq_true rfl, Nat.le_of_ble_eq_true rfl⟩ (by decide +kernel) ?_
              refine l_eq (st' := [vI (ce S 3 i44 1), vI (nI (2 * (kpL S (kp0 S k t0 t1) i44).length + 1)), vR (9, 6, 0)]) rfl rfl (congrArg (fun z => [vI (ce S 3 i44 1), vI z, vR (9, 6, 0)]) (mul21 _)) rfl rfl ?_
              refine l_ast 6 (i := 2 * (kpL S (kp0 S k t0 t1) i44).length + 1) (B' := putB 6 (upd (upd (arrF (kpL S (kp0 S k t0 t1) i44)) (2 * (kpL S (kp0 S k t0 t1) i44).length) (ce S 3 i44 0)) (2 * (kpL S (kp0 S k t0 t1) i44).length + 1) (ce S 3 i44 1)) B) (by decide) (show 2 * (kpL S (kp0 S k t0 t1) i44).length + 1 < 12 by omega) (updB_hd) (by decide +kernel) ?_
              refine l_blk (pc' := 44) (loc' := [some (vR (7, 0, 0)), some (vI (nI k)), some (vI (0 : Int32)), some (vI (nI t0)), some (vI (nI t1)), some (vI (nI r0)), some (vI (nI r1)), some (vI ((nI (kpL S (kp0 S k t0 t1) i44).length) + (1 : Int32))), some (vR (9, 6, 0)), some (vI ((nI i44) + (1 : Int32))), some (vI (wthS S (nI t0) (nI t1) i44))]) (st' := []) (B' := putB 6 (upd (upd (arrF (kpL S (kp0 S k t0 t1) i44)) (2 * (kpL S (kp0 S k t0 t1) i44).length) (ce S 3 i44 0)) (2 * (kpL S (kp0 S k t0 t1) i44).length + 1) (ce S 3 i44 1)) B) [(153, .iinc 7 1), (156, .iinc 9 1), (159, .goto (-115))] (by decide +kernel) rfl rfl ?_
              refine l_eq (B' := putB 6 (arrF (kpL S (kp0 S k t0 t1) (i44 + 1))) B) rfl rfl rfl (putB_c (arr_s.trans (congrArg arrF (kpL_y (kp0_y (by omega) (by omega) zc111)).symm)) (rfl)) rfl ?_
              exact l_sub (loc' := [some (vR (7, 0, 0)), some (vI (nI k)), some (vI (0 : Int32)), some (vI (nI t0)), some (vI (nI t1)), some (vI (nI r0)), some (vI (nI r1)), some (vI (nI (kpL S (kp0 S k t0 t1) (i44 + 1)).length)), some (vR (9, 6, 0)), some (vI (nI (i44 + 1))), none]) ⟨Or.inr rfl, ⟨Or.inr rfl, ⟨Or.inr rfl, ⟨Or.inr rfl, ⟨Or.inr rfl, ⟨Or.inr rfl, ⟨Or.inr rfl, ⟨Or.inr (congrArg (fun z => some (vI z)) (kpl_y (kp0_y (by omega) (by omega) zc111))), ⟨Or.inr rfl, ⟨Or.inr (congrArg (fun z => some (vI z)) (nI_1 _).symm), ⟨Or.inl rfl, trivial⟩⟩⟩⟩⟩⟩⟩⟩⟩⟩⟩ (ih44 (i44 + 1) (by omega) (by omega))
            · exact absurd zc115 (by decide)
        refine l_icmp_eq (off := 38) (tgt := 101) (by decide +kernel) (by decide) (fun zc63 => ?_) (fun zc63 => ?_)
        · refine l_blk (pc' := 106) (loc' := [some (vR (7, 0, 0)), some (vI (nI k)), some (vI (0 : Int32)), some (vI (nI t0)), some (vI (nI t1)), some (vI (nI r0)), some (vI (nI r1)), some (vI (nI (kpL S (kp0 S k t0 t1) i44).length)), some (vR (9, 6, 0)), some (vI (nI i44)), none]) (st' := [vI (1 : Int32)]) (B' := putB 6 (arrF (kpL S (kp0 S k t0 t1) i44)) B) [(101, .iconst 1), (102, .goto 4)] (by decide +kernel) rfl rfl ?_
          exact l_st ((wth_a zc63).symm) hm63
        · refine l_blk (pc' := 70) (loc' := [some (vR (7, 0, 0)), some (vI (nI k)), some (vI (0 : Int32)), some (vI (nI t0)), some (vI (nI t1)), some (vI (nI r0)), some (vI (nI r1)), some (vI (nI (kpL S (kp0 S k t0 t1) i44).length)), some (vR (9, 6, 0)), some (vI (nI i44)), none]) (st' := [vI (1 : Int32), vI (nI i44), vR (7, 0, 0)]) (B' := putB 6 (arrF (kpL S (kp0 S k t0 t1) i44)) B) [(66, .aload_n 0), (67, .iload 9), (69, .iconst 1)] (by decide +kernel) rfl rfl ?_
          refine l_callV (ce S 3 i44 1) ((S, (Hs, P)) : XS) [vI (nI i44), vI (1 : Int32)] [] vl_RL_110 mi_X4_swap (k_swap l (r_swap1 hB (show i44 < sz S 3 by omega))) rfl rfl rfl ⟨Nat.le_of_ble_eq_true rfl, Nat.le_of_ble_eq_true rfl⟩ rfl (Nat.le_of_ble_eq_true rfl) ⟨Nat.le_of_ble_eq_true rfl, Nat.le_of_ble_eq_true rfl⟩ (by decide +kernel) ?_
          refine l_blk (pc' := 74) (loc' := [some (vR (7, 0, 0)), some (vI (nI k)), some (vI (0 : Int32)), some (vI (nI t0)), some (vI (nI t1)), some (vI (nI r0)), some (vI (nI r1)), some (vI (nI (kpL S (kp0 S k t0 t1) i44).length)), some (vR (9, 6, 0)), some (vI (nI i44)), none]) (st' := [vI (nI t0), vI (ce S 3 i44 1)]) (B' := putB 6 (arrF (kpL S (kp0 S k t0 t1) i44)) B) [(73, .iload_n 3)] (by decide +kernel) rfl rfl ?_
          refine l_icmp_eq (off := 27) (tgt := 101) (by decide +kernel) (by decide) (fun zc74 => ?_) (fun zc74 => ?_)
          · refine l_blk (pc' := 106) (loc' := [some (vR (7, 0, 0)), some (vI (nI k)), some (vI (0 : Int32)), some (vI (nI t0)), some (vI (nI t1)), some (vI (nI r0)), some (vI (nI r1)), some (vI (nI (kpL S (kp0 S k t0 t1) i44).length)), some (vR (9, 6, 0)), some (vI (nI i44)), none]) (st' := [vI (1 : Int32)]) (B' := putB 6 (arrF (kpL S (kp0 S k t0 t1) i44)) B) [(101, .iconst 1), (102, .goto 4)] (by decide +kernel) rfl rfl ?_
            exact l_st ((wth_b zc74).symm) hm63
          · refine l_blk (pc' := 81) (loc' := [some (vR (7, 0, 0)), some (vI (nI k)), some (vI (0 : Int32)), some (vI (nI t0)), some (vI (nI t1)), some (vI (nI r0)), some (vI (nI r1)), some (vI (nI (kpL S (kp0 S k t0 t1) i44).length)), some (vR (9, 6, 0)), some (vI (nI i44)), none]) (st' := [vI (0 : Int32), vI (nI i44), vR (7, 0, 0)]) (B' := putB 6 (arrF (kpL S (kp0 S k t0 t1) i44)) B) [(77, .aload_n 0), (78, .iload 9), (80, .iconst 0)] (by decide +kernel) rfl rfl ?_
            refine l_callV (ce S 3 i44 0) ((S, (Hs, P)) : XS) [vI (nI i44), vI (0 : Int32)] [] vl_RL_110 mi_X4_swap (k_swap l (r_swap0 hB (show i44 < sz S 3 by omega))) rfl rfl rfl ⟨Nat.le_of_ble_eq_true rfl, Nat.le_of_ble_eq_true rfl⟩ rfl (Nat.le_of_ble_eq_true rfl) ⟨Nat.le_of_ble_eq_true rfl, Nat.le_of_ble_eq_true rfl⟩ (by decide +kernel) ?_
            refine l_blk (pc' := 86) (loc' := [some (vR (7, 0, 0)), some (vI (nI k)), some (vI (0 : Int32)), some (vI (nI t0)), some (vI (nI t1)), some (vI (nI r0)), some (vI (nI r1)), some (vI (nI (kpL S (kp0 S k t0 t1) i44).length)), some (vR (9, 6, 0)), some (vI (nI i44)), none]) (st' := [vI (nI t1), vI (ce S 3 i44 0)]) (B' := putB 6 (arrF (kpL S (kp0 S k t0 t1) i44)) B) [(84, .iload 4)] (by decide +kernel) rfl rfl ?_
            refine l_icmp_eq (off := 15) (tgt := 101) (by decide +kernel) (by decide) (fun zc86 => ?_) (fun zc86 => ?_)
            · refine l_blk (pc' := 106) (loc' := [some (vR (7, 0, 0)), some (vI (nI k)), some (vI (0 : Int32)), some (vI (nI t0)), some (vI (nI t1)), some (vI (nI r0)), some (vI (nI r1)), some (vI (nI (kpL S (kp0 S k t0 t1) i44).length)), some (vR (9, 6, 0)), some (vI (nI i44)), none]) (st' := [vI (1 : Int32)]) (B' := putB 6 (arrF (kpL S (kp0 S k t0 t1) i44)) B) [(101, .iconst 1), (102, .goto 4)] (by decide +kernel) rfl rfl ?_
              exact l_st ((wth_c zc86).symm) hm63
            · refine l_blk (pc' := 93) (loc' := [some (vR (7, 0, 0)), some (vI (nI k)), some (vI (0 : Int32)), some (vI (nI t0)), some (vI (nI t1)), some (vI (nI r0)), some (vI (nI r1)), some (vI (nI (kpL S (kp0 S k t0 t1) i44).length)), some (vR (9, 6, 0)), some (vI (nI i44)), none]) (st' := [vI (1 : Int32), vI (nI i44), vR (7, 0, 0)]) (B' := putB 6 (arrF (kpL S (kp0 S k t0 t1) i44)) B) [(89, .aload_n 0), (90, .iload 9), (92, .iconst 1)] (by decide +kernel) rfl rfl ?_
              refine l_callV (ce S 3 i44 1) ((S, (Hs, P)) : XS) [vI (nI i44), vI (1 : Int32)] [] vl_RL_110 mi_X4_swap (k_swap l (r_swap1 hB (show i44 < sz S 3 by omega))) rfl rfl rfl ⟨Nat.le_of_ble_eq_true rfl, Nat.le_of_ble_eq_true rfl⟩ rfl (Nat.le_of_ble_eq_true rfl) ⟨Nat.le_of_ble_eq_true rfl, Nat.le_of_ble_eq_true rfl⟩ (by decide +kernel) ?_
              refine l_blk (pc' := 98) (loc' := [some (vR (7, 0, 0)), some (vI (nI k)), some (vI (0 : Int32)), some (vI (nI t0)), some (vI (nI t1)), some (vI (nI r0)), some (vI (nI r1)), some (vI (nI (kpL S (kp0 S k t0 t1) i44).length)), some (vR (9, 6, 0)), some (vI (nI i44)), none]) (st' := [vI (nI t1), vI (ce S 3 i44 1)]) (B' := putB 6 (arrF (kpL S (kp0 S k t0 t1) i44)) B) [(96, .iload 4)] (by decide +kernel) rfl rfl ?_
              refine l_icmp_ne (off := 7) (tgt := 105) (by decide +kernel) (by decide) (fun zc98 => ?_) (fun zc98 => ?_)
              · refine l_blk (pc' := 106) (loc' := [some (vR (7, 0, 0)), some (vI (nI k)), some (vI (0 : Int32)), some (vI (nI t0)), some (vI (nI t1)), some (vI (nI r0)), some (vI (nI r1)), some (vI (nI (kpL S (kp0 S k t0 t1) i44).length)), some (vR (9, 6, 0)), some (vI (nI i44)), none]) (st' := [vI (0 : Int32)]) (B' := putB 6 (arrF (kpL S (kp0 S k t0 t1) i44)) B) [(105, .iconst 0)] (by decide +kernel) rfl rfl ?_
                exact l_st ((wth_n zc63 zc74 zc86 zc98).symm) hm63
              · refine l_blk (pc' := 106) (loc' := [some (vR (7, 0, 0)), some (vI (nI k)), some (vI (0 : Int32)), some (vI (nI t0)), some (vI (nI t1)), some (vI (nI r0)), some (vI (nI r1)), some (vI (nI (kpL S (kp0 S k t0 t1) i44).length)), some (vR (9, 6, 0)), some (vI (nI i44)), none]) (st' := [vI (1 : Int32)]) (B' := putB 6 (arrF (kpL S (kp0 S k t0 t1) i44)) B) [(101, .iconst 1), (102, .goto 4)] (by decide +kernel) rfl rfl ?_
                exact l_st ((wth_d zc98).symm) hm63
  refine l_eq (B' := putB 6 (arrF (kpL S (kp0 S k t0 t1) 0)) B) rfl rfl rfl (putB_c (arr_0) (rfl)) rfl ?_
  exact l_sub (loc' := [some (vR (7, 0, 0)), some (vI (nI k)), some (vI (0 : Int32)), some (vI (nI t0)), some (vI (nI t1)), some (vI (nI r0)), some (vI (nI r1)), some (vI (nI (kpL S (kp0 S k t0 t1) 0).length)), some (vR (9, 6, 0)), some (vI (nI 0)), none]) ⟨Or.inr rfl, ⟨Or.inr rfl, ⟨Or.inr rfl, ⟨Or.inr rfl, ⟨Or.inr rfl, ⟨Or.inr rfl, ⟨Or.inr rfl, ⟨Or.inr rfl, ⟨Or.inr rfl, ⟨Or.inr rfl, ⟨Or.inr rfl, trivial⟩⟩⟩⟩⟩⟩⟩⟩⟩⟩⟩ (lp44 (sz S 3 + 1) 0 (by omega) (by omega))
set_option maxHeartbeats 4000000 in
theorem c_L_answers1 (l : Launch) {S : HA} {Hs : List HA} {P : PV} {kk k : Nat} (hJ : J kk (S, (Hs, P))) (hk : k < sz S 3)  : LCon l (RL_ 7 1 12 224) yL_answers cL_answers 11 [vR (7, 0, 0), vI (nI k), vI (1 : Int32)] ((S, (Hs, P)) : XS) (fun v X' => v = 1 ∧ J (kk + 1) X') := by
  refine lcon_of (by decide +kernel) rfl (Nat.le_of_ble_eq_true rfl) (fun B => ?_)
  show GL l (RL_ 7 1 12 224) cL_answers 11 _ (KM (fun v X' => v = 1 ∧ J (kk + 1) X') 1 12) 0 [] B [some (vR (7, 0, 0)), some (vI (nI k)), some (vI (1 : Int32)), none, none, none, none, none, none, none, none] [] ((S, (Hs, P)) : XS) 0 0
  generalize hK : KM (fun v X' => v = 1 ∧ J (kk + 1) X') 1 12 = K
  have hV : V S (720 * kk) := hJ.1
  have hB := hV.1.2.1
  obtain ⟨b0, b1, b2, b3⟩ := id hB
  obtain ⟨t0, ht0, e0, o0⟩ := hV.w k 0 hk (by decide)
  obtain ⟨t1, ht1, e1, o1⟩ := hV.w k 1 hk (by decide)
  obtain ⟨r0, hr0, hw0⟩ := (hV.2.2.2.1 t0 ht0).2.1
  obtain ⟨r1, hr1, hw1⟩ := (hV.2.2.2.1 t1 ht1).2.1
  have hx := x_ans1 (Hs := Hs) (P := P) hB hk
  obtain ⟨V1, z1, z3, g3, w0, w1, q1⟩ := ans1_facts hV hk ht0 ht1 e0 e1 o0 o1 hr0 hr1 hw0 hw1
  obtain ⟨S1, hS1⟩ : ∃ S1, accS S (nI k) = S1 := ⟨_, rfl⟩
  rw [hS1] at V1 z1 z3 g3 w0 w1 q1 hx
  have hB1 := V1.1.2.1
  have s0 := z1 0 (by decide)
  have s1 := z1 1 (by decide)
  have s2 := z1 2 (by decide)
  have b3' := hB1.2.2.2
  refine l_blk (pc' := 3) (loc' := [some (vR (7, 0, 0)), some (vI (nI k)), some (vI (1 : Int32)), none, none, none, none, none, none, none, none]) (st' := [vI (0 : Int32), vI (nI k), vR (7, 0, 0)]) (B' := B) [(0, .aload_n 0), (1, .iload_n 1), (2, .iconst 0)] (by decide +kernel) rfl rfl ?_
  refine l_callV (nI t0) ((S, (Hs, P)) : XS) [vI (nI k), vI (0 : Int32)] [] vl_RL_110 mi_X4_swap (k_swap l ((r_swap0 hB (show k < sz S 3 by omega)).trans (e0))) rfl rfl rfl ⟨Nat.le_of_ble_eq_true rfl, Nat.le_of_ble_eq_true rfl⟩ rfl (Nat.le_of_ble_eq_true rfl) ⟨Nat.le_of_ble_eq_true rfl, Nat.le_of_ble_eq_true rfl⟩ (by decide +kernel) ?_
  refine l_blk (pc' := 10) (loc' := [some (vR (7, 0, 0)), some (vI (nI k)), some (vI (1 : Int32)), some (vI (nI t0)), none, none, none, none, none, none, none]) (st' := [vI (1 : Int32), vI (nI k), vR (7, 0, 0)]) (B' := B) [(6, .istore_n 3), (7, .aload_n 0), (8, .iload_n 1), (9, .iconst 1)] (by decide +kernel) rfl rfl ?_
  refine l_callV (nI t1) ((S, (Hs, P)) : XS) [vI (nI k), vI (1 : Int32)] [] vl_RL_110 mi_X4_swap (k_swap l ((r_swap1 hB (show k < sz S 3 by omega)).trans (e1))) rfl rfl rfl ⟨Nat.le_of_ble_eq_true rfl, Nat.le_of_ble_eq_true rfl⟩ rfl (Nat.le_of_ble_eq_true rfl) ⟨Nat.le_of_ble_eq_true rfl, Nat.le_of_ble_eq_true rfl⟩ (by decide +kernel) ?_
  refine l_blk (pc' := 18) (loc' := [some (vR (7, 0, 0)), some (vI (nI k)), some (vI (1 : Int32)), some (vI (nI t0)), some (vI (nI t1)), none, none, none, none, none, none]) (st' := [vI (1 : Int32), vI (nI t0), vR (7, 0, 0)]) (B' := B) [(13, .istore 4), (15, .aload_n 0), (16, .iload_n 3), (17, .iconst 1)] (by decide +kernel) rfl rfl ?_
  refine l_callV (nI r0) ((S, (Hs, P)) : XS) [vI (nI t0), vI (1 : Int32)] [] vl_RL_107 mi_X4_task (k_task l ((r_task1 hB (show t0 < sz S 2 by omega)).trans (hw0))) rfl rfl rfl ⟨Nat.le_of_ble_eq_true rfl, Nat.le_of_ble_eq_true rfl⟩ rfl (Nat.le_of_ble_eq_true rfl) ⟨Nat.le_of_ble_eq_true rfl, Nat.le_of_ble_eq_true rfl⟩ (by decide +kernel) ?_
  refine l_blk (pc' := 27) (loc' := [some (vR (7, 0, 0)), some (vI (nI k)), some (vI (1 : Int32)), some (vI (nI t0)), some (vI (nI t1)), some (vI (nI r0)), none, none, none, none, none]) (st' := [vI (1 : Int32), vI (nI t1), vR (7, 0, 0)]) (B' := B) [(21, .istore 5), (23, .aload_n 0), (24, .iload 4), (26, .iconst 1)] (by decide +kernel) rfl rfl ?_
  refine l_callV (nI r1) ((S, (Hs, P)) : XS) [vI (nI t1), vI (1 : Int32)] [] vl_RL_107 mi_X4_task (k_task l ((r_task1 hB (show t1 < sz S 2 by omega)).trans (hw1))) rfl rfl rfl ⟨Nat.le_of_ble_eq_true rfl, Nat.le_of_ble_eq_true rfl⟩ rfl (Nat.le_of_ble_eq_true rfl) ⟨Nat.le_of_ble_eq_true rfl, Nat.le_of_ble_eq_true rfl⟩ (by decide +kernel) ?_
  refine l_blk (pc' := 37) (loc' := [some (vR (7, 0, 0)), some (vI (nI k)), some (vI (1 : Int32)), some (vI (nI t0)), some (vI (nI t1)), some (vI (nI r0)), some (vI (nI r1)), some (vI (0 : Int32)), none, none, none]) (st' := [vI (12 : Int32)]) (B' := B) [(30, .istore 6), (32, .iconst 0), (33, .istore 7), (35, .bipush 12)] (by decide +kernel) rfl rfl ?_
  refine l_new 6 (by rw [← hK]; exact KM_I) rfl rfl (by decide) rfl rfl ⟨Nat.le_of_ble_eq_true rfl, Nat.le_of_ble_eq_true rfl⟩ (by decide +kernel) ?_
  refine l_blk (pc' := 44) (loc' := [some (vR (7, 0, 0)), some (vI (nI k)), some (vI (1 : Int32)), some (vI (nI t0)), some (vI (nI t1)), some (vI (nI r0)), some (vI (nI r1)), some (vI (0 : Int32)), some (vR (9, 6, 0)), some (vI (0 : Int32)), none]) (st' := []) (B' := putB 6 (fun _ => 0) B) [(39, .astore 8), (41, .iconst 0), (42, .istore 9)] (by decide +kernel) rfl rfl ?_
  have lp44 : ∀ (k44 i44 : Nat), i44 ≤ sz S 3 → sz S 3 < i44 + k44 → GL l (RL_ 7 1 12 224) cL_answers 11 (some .boolean) K 44 [6] (putB 6 (arrF (kpL S (kp1 S k t0 t1) i44)) B) [some (vR (7, 0, 0)), some (vI (nI k)), some (vI (1 : Int32)), some (vI (nI t0)), some (vI (nI t1)), some (vI (nI r0)), some (vI (nI r1)), some (vI (nI (kpL S (kp1 S k t0 t1) i44).length)), some (vR (9, 6, 0)), some (vI (nI i44)), none] [] ((S, (Hs, P)) : XS) 1 12 := by
    intro k44
    induction k44 with
    | zero =>
      intro i44 hi44 hk44
      exact absurd hk44 (by omega)
    | succ k44 ih44 =>
      intro i44 hi44 hk44
      refine l_blk (pc' := 49) (loc' := [some (vR (7, 0, 0)), some (vI (nI k)), some (vI (1 : Int32)), some (vI (nI t0)), some (vI (nI t1)), some (vI (nI r0)), some (vI (nI r1)), some (vI (nI (kpL S (kp1 S k t0 t1) i44).length)), some (vR (9, 6, 0)), some (vI (nI i44)), none]) (st' := [vI (7 : Int32), vR (7, 0, 0), vI (nI i44)]) (B' := putB 6 (arrF (kpL S (kp1 S k t0 t1) i44)) B) [(44, .iload 9), (46, .aload_n 0), (47, .bipush 7)] (by decide +kernel) rfl rfl ?_
      refine l_callV (nI (sz S 3)) ((S, (Hs, P)) : XS) [vI (7 : Int32)] [vI (nI i44)] vl_RL_60 mi_X4_count (k_count l (r_count7)) rfl rfl rfl ⟨Nat.le_of_ble_eq_true rfl, Nat.le_of_ble_eq_true rfl⟩ rfl (Nat.le_of_ble_eq_true rfl) ⟨Nat.le_of_ble_eq_true rfl, Nat.le_of_ble_eq_true rfl⟩ (by decide +kernel) ?_
      refine l_icmp_ge (off := 110) (tgt := 162) (by decide +kernel) (by decide) (fun zc52 => ?_) (fun zc52 => ?_)
      · rw [nI_leI (by omega) (by omega)] at zc52
        obtain rfl : i44 = sz S 3 := by omega
        refine l_blk (pc' := 165) (loc' := [some (vR (7, 0, 0)), some (vI (nI k)), some (vI (1 : Int32)), some (vI (nI t0)), some (vI (nI t1)), some (vI (nI r0)), some (vI (nI r1)), some (vI (nI (kpL S (kp1 S k t0 t1) (sz S 3)).length)), some (vR (9, 6, 0)), some (vI (nI (sz S 3))), none]) (st' := [vI (1 : Int32), vI (nI k), vR (7, 0, 0)]) (B' := putB 6 (arrF (kpL S (kp1 S k t0 t1) (sz S 3))) B) [(162, .aload_n 0), (163, .iload_n 1), (164, .iload_n 2)] (by decide +kernel) rfl rfl ?_
        refine l_callV (nI (kpL S (kp1 S k t0 t1) (sz S 3)).length) ((S1, (keepL Hs S, P)) : XS) [vI (nI k), vI (1 : Int32)] [] vl_RL_89 mi_X4_answer (k_answer l (hx.trans (by rw [z3]))) rfl rfl rfl ⟨Nat.le_of_ble_eq_true rfl, Nat.le_of_ble_eq_true rfl⟩ rfl (Nat.le_of_ble_eq_true rfl) ⟨Nat.le_of_ble_eq_true rfl, Nat.le_of_ble_eq_true rfl⟩ (by decide +kernel) ?_
        refine l_blk (pc' := 170) (loc' := [some (vR (7, 0, 0)), some (vI (nI k)), some (vI (1 : Int32)), some (vI (nI t0)), some (vI (nI t1)), some (vI (nI r0)), some (vI (nI r1)), some (vI (nI (kpL S (kp1 S k t0 t1) (sz S 3)).length)), some (vR (9, 6, 0)), some (vI (nI (sz S 3))), none]) (st' := [vI (nI (kpL S (kp1 S k t0 t1) (sz S 3)).length), vI (nI (kpL S (kp1 S k t0 t1) (sz S 3)).length)]) (B' := putB 6 (arrF (kpL S (kp1 S k t0 t1) (sz S 3))) B) [(168, .iload 7)] (by decide +kernel) rfl rfl ?_
        refine l_icmp_ne (off := 57) (tgt := 227) (by decide +kernel) (by decide) (fun zc170 => ?_) (fun zc170 => ?_)
        · exact absurd rfl zc170
        · refine l_blk (pc' := 176) (loc' := [some (vR (7, 0, 0)), some (vI (nI k)), some (vI (1 : Int32)), some (vI (nI t0)), some (vI (nI t1)), some (vI (nI r0)), some (vI (nI r1)), some (vI (nI (kpL S (kp1 S k t0 t1) (sz S 3)).length)), some (vR (9, 6, 0)), some (vI (nI (sz S 3))), none]) (st' := [vI (7 : Int32), vR (7, 0, 0)]) (B' := putB 6 (arrF (kpL S (kp1 S k t0 t1) (sz S 3))) B) [(173, .aload_n 0), (174, .bipush 7)] (by decide +kernel) rfl rfl ?_
          refine l_callV (nI (kpL S (kp1 S k t0 t1) (sz S 3)).length) ((S1, (keepL Hs S, P)) : XS) [vI (7 : Int32)] [] vl_RL_60 mi_X4_count (k_count l ((r_count7).trans (by rw [z3]))) rfl rfl rfl ⟨Nat.le_of_ble_eq_true rfl, Nat.le_of_ble_eq_true rfl⟩ rfl (Nat.le_of_ble_eq_true rfl) ⟨Nat.le_of_ble_eq_true rfl, Nat.le_of_ble_eq_true rfl⟩ (by decide +kernel) ?_
          refine l_blk (pc' := 181) (loc' := [some (vR (7, 0, 0)), some (vI (nI k)), some (vI (1 : Int32)), some (vI (nI t0)), some (vI (nI t1)), some (vI (nI r0)), some (vI (nI r1)), some (vI (nI (kpL S (kp1 S k t0 t1) (sz S 3)).length)), some (vR (9, 6, 0)), some (vI (nI (sz S 3))), none]) (st' := [vI (nI (kpL S (kp1 S k t0 t1) (sz S 3)).length), vI (nI (kpL S (kp1 S k t0 t1) (sz S 3)).length)]) (B' := putB 6 (arrF (kpL S (kp1 S k t0 t1) (sz S 3))) B) [(179, .iload 7)] (by decide +kernel) rfl rfl ?_
          refine l_icmp_ne (off := 46) (tgt := 227) (by decide +kernel) (by decide) (fun zc181 => ?_) (fun zc181 => ?_)
          · exact absurd rfl zc181
          · refine l_blk (pc' := 187) (loc' := [some (vR (7, 0, 0)), some (vI (nI k)), some (vI (1 : Int32)), some (vI (nI t0)), some (vI (nI t1)), some (vI (nI r0)), some (vI (nI r1)), some (vI (nI (kpL S (kp1 S k t0 t1) (sz S 3)).length)), some (vR (9, 6, 0)), some (vI (nI (sz S 3))), none]) (st' := [vI (1 : Int32), vI (nI t0), vR (7, 0, 0)]) (B' := putB 6 (arrF (kpL S (kp1 S k t0 t1) (sz S 3))) B) [(184, .aload_n 0), (185, .iload_n 3), (186, .iconst 1)] (by decide +kernel) rfl rfl ?_
            refine l_callV (nI r1) ((S1, (keepL Hs S, P)) : XS) [vI (nI t0), vI (1 : Int32)] [] vl_RL_107 mi_X4_task (k_task l ((r_task1 hB1 (show t0 < sz S1 2 by omega)).trans (w0))) rfl rfl rfl ⟨Nat.le_of_ble_eq_true rfl, Nat.le_of_ble_eq_true rfl⟩ rfl (Nat.le_of_ble_eq_true rfl) ⟨Nat.le_of_ble_eq_true rfl, Nat.le_of_ble_eq_true rfl⟩ (by decide +kernel) ?_
            refine l_blk (pc' := 192) (loc' := [some (vR (7, 0, 0)), some (vI (nI k)), some (vI (1 : Int32)), some (vI (nI t0)), some (vI (nI t1)), some (vI (nI r0)), some (vI (nI r1)), some (vI (nI (kpL S (kp1 S k t0 t1) (sz S 3)).length)), some (vR (9, 6, 0)), some (vI (nI (sz S 3))), none]) (st' := [vI (1 : Int32), vI (1 : Int32), vI (nI r1)]) (B' := putB 6 (arrF (kpL S (kp1 S k t0 t1) (sz S 3))) B) [(190, .iload_n 2), (191, .iconst 1)] (by decide +kernel) rfl rfl ?_
            refine l_icmp_ne (off := 8) (tgt := 200) (by decide +kernel) (by decide) (fun zc192 => ?_) (fun zc192 => ?_)
            · exact absurd zc192 (by decide)
            · refine l_blk (pc' := 202) (loc' := [some (vR (7, 0, 0)), some (vI (nI k)), some (vI (1 : Int32)), some (vI (nI t0)), some (vI (nI t1)), some (vI (nI r0)), some (vI (nI r1)), some (vI (nI (kpL S (kp1 S k t0 t1) (sz S 3)).length)), some (vR (9, 6, 0)), some (vI (nI (sz S 3))), none]) (st' := [vI (nI r1), vI (nI r1)]) (B' := putB 6 (arrF (kpL S (kp1 S k t0 t1) (sz S 3))) B) [(195, .iload 6), (197, .goto 5)] (by decide +kernel) rfl rfl ?_
              refine l_icmp_ne (off := 25) (tgt := 227) (by decide +kernel) (by decide) (fun zc202 => ?_) (fun zc202 => ?_)
              · exact absurd rfl zc202
              · refine l_blk (pc' := 209) (loc' := [some (vR (7, 0, 0)), some (vI (nI k)), some (vI (1 : Int32)), some (vI (nI t0)), some (vI (nI t1)), some (vI (nI r0)), some (vI (nI r1)), some (vI (nI (kpL S (kp1 S k t0 t1) (sz S 3)).length)), some (vR (9, 6, 0)), some (vI (nI (sz S 3))), none]) (st' := [vI (1 : Int32), vI (nI t1), vR (7, 0, 0)]) (B' := putB 6 (arrF (kpL S (kp1 S k t0 t1) (sz S 3))) B) [(205, .aload_n 0), (206, .iload 4), (208, .iconst 1)] (by decide +kernel) rfl rfl ?_
                refine l_callV (nI r0) ((S1, (keepL Hs S, P)) : XS) [vI (nI t1), vI (1 : Int32)] [] vl_RL_107 mi_X4_task (k_task l ((r_task1 hB1 (show t1 < sz S1 2 by omega)).trans (w1))) rfl rfl rfl ⟨Nat.le_of_ble_eq_true rfl, Nat.le_of_ble_eq_true rfl⟩ rfl (Nat.le_of_ble_eq_true rfl) ⟨Nat.le_of_ble_eq_true rfl, Nat.le_of_ble_eq_true rfl⟩ (by decide +kernel) ?_
                refine l_blk (pc' := 214) (loc' := [some (vR (7, 0, 0)), some (vI (nI k)), some (vI (1 : Int32)), some (vI (nI t0)), some (vI (nI t1)), some (vI (nI r0)), some (vI (nI r1)), some (vI (nI (kpL S (kp1 S k t0 t1) (sz S 3)).length)), some (vR (9, 6, 0)), some (vI (nI (sz S 3))), none]) (st' := [vI (1 : Int32), vI (1 : Int32), vI (nI r0)]) (B' := putB 6 (arrF (kpL S (kp1 S k t0 t1) (sz S 3))) B) [(212, .iload_n 2), (213, .iconst 1)] (by decide +kernel) rfl rfl ?_
                refine l_icmp_ne (off := 8) (tgt := 222) (by decide +kernel) (by decide) (fun zc214 => ?_) (fun zc214 => ?_)
                · exact absurd zc214 (by decide)
                · refine l_blk (pc' := 224) (loc' := [some (vR (7, 0, 0)), some (vI (nI k)), some (vI (1 : Int32)), some (vI (nI t0)), some (vI (nI t1)), some (vI (nI r0)), some (vI (nI r1)), some (vI (nI (kpL S (kp1 S k t0 t1) (sz S 3)).length)), some (vR (9, 6, 0)), some (vI (nI (sz S 3))), none]) (st' := [vI (nI r0), vI (nI r0)]) (B' := putB 6 (arrF (kpL S (kp1 S k t0 t1) (sz S 3))) B) [(217, .iload 5), (219, .goto 5)] (by decide +kernel) rfl rfl ?_
                  refine l_icmp_eq (off := 5) (tgt := 229) (by decide +kernel) (by decide) (fun zc224 => ?_) (fun zc224 => ?_)
                  · refine l_blk (pc' := 232) (loc' := [some (vR (7, 0, 0)), some (vI (nI k)), some (vI (1 : Int32)), some (vI (nI t0)), some (vI (nI t1)), some (vI (nI r0)), some (vI (nI r1)), some (vI (nI (kpL S (kp1 S k t0 t1) (sz S 3)).length)), some (vR (9, 6, 0)), some (vI (0 : Int32)), none]) (st' := []) (B' := putB 6 (arrF (kpL S (kp1 S k t0 t1) (sz S 3))) B) [(229, .iconst 0), (230, .istore 9)] (by decide +kernel) rfl rfl ?_
                    have lp232 : ∀ (k232 i232 : Nat), i232 ≤ (kpL S (kp1 S k t0 t1) (sz S 3)).length → (kpL S (kp1 S k t0 t1) (sz S 3)).length < i232 + k232 → GL l (RL_ 7 1 12 224) cL_answers 11 (some .boolean) K 232 [6] (putB 6 (arrF (kpL S (kp1 S k t0 t1) (sz S 3))) B) [some (vR (7, 0, 0)), some (vI (nI k)), some (vI (1 : Int32)), some (vI (nI t0)), some (vI (nI t1)), some (vI (nI r0)), some (vI (nI r1)), some (vI (nI (kpL S (kp1 S k t0 t1) (sz S 3)).length)), some (vR (9, 6, 0)), some (vI (nI i232)), none] [] ((S1, (keepL Hs S, P)) : XS) 1 12 := by
                      intro k232
                      induction k232 with
                      | zero =>
                        intro i232 hi232 hk232
                        exact absurd hk232 (by omega)
                      | succ k232 ih232 =>
                        intro i232 hi232 hk232
                        refine l_blk (pc' := 236) (loc' := [some (vR (7, 0, 0)), some (vI (nI k)), some (vI (1 : Int32)), some (vI (nI t0)), some (vI (nI t1)), some (vI (nI r0)), some (vI (nI r1)), some (vI (nI (kpL S (kp1 S k t0 t1) (sz S 3)).length)), some (vR (9, 6, 0)), some (vI (nI i232)), none]) (st' := [vI (nI (kpL S (kp1 S k t0 t1) (sz S 3)).length), vI (nI i232)]) (B' := putB 6 (arrF (kpL S (kp1 S k t0 t1) (sz S 3))) B) [(232, .iload 9), (234, .iload 7)] (by decide +kernel) rfl rfl ?_
                        refine l_icmp_ge (off := 47) (tgt := 283) (by decide +kernel) (by decide) (fun zc236 => ?_) (fun zc236 => ?_)
                        · rw [nI_leI (by omega) (by omega)] at zc236
                          obtain rfl : i232 = (kpL S (kp1 S k t0 t1) (sz S 3)).length := by omega
                          refine l_blk (pc' := 284) (loc' := [some (vR (7, 0, 0)), some (vI (nI k)), some (vI (1 : Int32)), some (vI (nI t0)), some (vI (nI t1)), some (vI (nI r0)), some (vI (nI r1)), some (vI (nI (kpL S (kp1 S k t0 t1) (sz S 3)).length)), some (vR (9, 6, 0)), some (vI (nI ((kpL S (kp1 S k t0 t1) (sz S 3)).length))), none]) (st' := [vI (1 : Int32)]) (B' := putB 6 (arrF (kpL S (kp1 S k t0 t1) (sz S 3))) B) [(283, .iconst 1)] (by decide +kernel) rfl rfl ?_
                          subst hK
                          exact l_zret ⟨Nat.le_of_ble_eq_true rfl, Nat.le_of_ble_eq_true rfl⟩ (Or.inr rfl) (⟨rfl, hJ.of (V1.le (by omega)) s0 s1 (congrFun q1 5)⟩) (by decide +kernel)
                        · rw [nI_leI (by omega) (by omega)] at zc236
                          refine l_blk (pc' := 243) (loc' := [some (vR (7, 0, 0)), some (vI (nI k)), some (vI (1 : Int32)), some (vI (nI t0)), some (vI (nI t1)), some (vI (nI r0)), some (vI (nI r1)), some (vI (nI (kpL S (kp1 S k t0 t1) (sz S 3)).length)), some (vR (9, 6, 0)), some (vI (nI i232)), none]) (st' := [vI (0 : Int32), vI (nI i232), vR (7, 0, 0)]) (B' := putB 6 (arrF (kpL S (kp1 S k t0 t1) (sz S 3))) B) [(239, .aload_n 0), (240, .iload 9), (242, .iconst 0)] (by decide +kernel) rfl rfl ?_
                          refine l_callV (ce S1 3 i232 0) ((S1, (keepL Hs S, P)) : XS) [vI (nI i232), vI (0 : Int32)] [] vl_RL_110 mi_X4_swap (k_swap l (r_swap0 hB1 (show i232 < sz S1 3 by omega))) rfl rfl rfl ⟨Nat.le_of_ble_eq_true rfl, Nat.le_of_ble_eq_true rfl⟩ rfl (Nat.le_of_ble_eq_true rfl) ⟨Nat.le_of_ble_eq_true rfl, Nat.le_of_ble_eq_true rfl⟩ (by decide +kernel) ?_
                          refine l_blk (pc' := 252) (loc' := [some (vR (7, 0, 0)), some (vI (nI k)), some (vI (1 : Int32)), some (vI (nI t0)), some (vI (nI t1)), some (vI (nI r0)), some (vI (nI r1)), some (vI (nI (kpL S (kp1 S k t0 t1) (sz S 3)).length)), some (vR (9, 6, 0)), some (vI (nI i232)), none]) (st' := [vI ((2 : Int32) * (nI i232)), vR (9, 6, 0), vI (ce S1 3 i232 0)]) (B' := putB 6 (arrF (kpL S (kp1 S k t0 t1) (sz S 3))) B) [(246, .aload 8), (248, .iconst 2), (249, .iload 9), (251, .imul)] (by decide +kernel) rfl rfl ?_
                          refine l_eq (st' := [vI (nI (2 * i232)), vR (9, 6, 0), vI (ce S1 3 i232 0)]) rfl rfl (congrArg (fun z => [vI z, vR (9, 6, 0), vI (ce S1 3 i232 0)]) (pk_mul 2 _)) rfl rfl ?_
                          refine l_ald 6 (i := 2 * i232) (v := ce S1 3 i232 0) (by decide) (show 2 * i232 < 12 by omega) (arr_e0 (g3 i232 (by omega))) (by decide +kernel) ?_
                          refine l_icmp_ne (off := 22) (tgt := 275) (by decide +kernel) (by decide) (fun zc253 => ?_) (fun zc253 => ?_)
                          · exact absurd rfl zc253
                          · refine l_blk (pc' := 260) (loc' := [some (vR (7, 0, 0)), some (vI (nI k)), some (vI (1 : Int32)), some (vI (nI t0)), some (vI (nI t1)), some (vI (nI r0)), some (vI (nI r1)), some (vI (nI (kpL S (kp1 S k t0 t1) (sz S 3)).length)), some (vR (9, 6, 0)), some (vI (nI i232)), none]) (st' := [vI (1 : Int32), vI (nI i232), vR (7, 0, 0)]) (B' := putB 6 (arrF (kpL S (kp1 S k t0 t1) (sz S 3))) B) [(256, .aload_n 0), (257, .iload 9), (259, .iconst 1)] (by decide +kernel) rfl rfl ?_
                            refine l_callV (ce S1 3 i232 1) ((S1, (keepL Hs S, P)) : XS) [vI (nI i232), vI (1 : Int32)] [] vl_RL_110 mi_X4_swap (k_swap l (r_swap1 hB1 (show i232 < sz S1 3 by omega))) rfl rfl rfl ⟨Nat.le_of_ble_eq_true rfl, Nat.le_of_ble_eq_true rfl⟩ rfl (Nat.le_of_ble_eq_true rfl) ⟨Nat.le_of_ble_eq_true rfl, Nat.le_of_ble_eq_true rfl⟩ (by decide +kernel) ?_
                            refine l_blk (pc' := 271) (loc' := [some (vR (7, 0, 0)), some (vI (nI k)), some (vI (1 : Int32)), some (vI (nI t0)), some (vI (nI t1)), some (vI (nI r0)), some (vI (nI r1)), some (vI (nI (kpL S (kp1 S k t0 t1) (sz S 3)).length)), some (vR (9, 6, 0)), some (vI (nI i232)), none]) (st' := [vI (((2 : Int32) * (nI i232)) + (1 : Int32)), vR (9, 6, 0), vI (ce S1 3 i232 1)]) (B' := putB 6 (arrF (kpL S (kp1 S k t0 t1) (sz S 3))) B) [(263, .aload 8), (265, .iconst 2), (266, .iload 9), (268, .imul), (269, .iconst 1), (270, .iadd)] (by decide +kernel) rfl rfl ?_
                            refine l_eq (st' := [vI (nI (2 * i232 + 1)), vR (9, 6, 0), vI (ce S1 3 i232 1)]) rfl rfl (congrArg (fun z => [vI z, vR (9, 6, 0), vI (ce S1 3 i232 1)]) (mul21 _)) rfl rfl ?_
                            refine l_ald 6 (i := 2 * i232 + 1) (v := ce S1 3 i232 1) (by decide) (show 2 * i232 + 1 < 12 by omega) (arr_e1 (g3 i232 (by omega))) (by decide +kernel) ?_
                            refine l_icmp_eq (off := 5) (tgt := 277) (by decide +kernel) (by decide) (fun zc272 => ?_) (fun zc272 => ?_)
                            · refine l_blk (pc' := 232) (loc' := [some (vR (7, 0, 0)), some (vI (nI k)), some (vI (1 : Int32)), some (vI (nI t0)), some (vI (nI t1)), some (vI (nI r0)), some (vI (nI r1)), some (vI (nI (kpL S (kp1 S k t0 t1) (sz S 3)).length)), some (vR (9, 6, 0)), some (vI ((nI i232) + (1 : Int32))), none]) (st' := []) (B' := putB 6 (arrF (kpL S (kp1 S k t0 t1) (sz S 3))) B) [(277, .iinc 9 1), (280, .goto (-48))] (by decide +kernel) rfl rfl ?_
                              exact l_sub (loc' := [some (vR (7, 0, 0)), some (vI (nI k)), some (vI (1 : Int32)), some (vI (nI t0)), some (vI (nI t1)), some (vI (nI r0)), some (vI (nI r1)), some (vI (nI (kpL S (kp1 S k t0 t1) (sz S 3)).length)), some (vR (9, 6, 0)), some (vI (nI (i232 + 1))), none]) ⟨Or.inr rfl, ⟨Or.inr rfl, ⟨Or.inr rfl, ⟨Or.inr rfl, ⟨Or.inr rfl, ⟨Or.inr rfl, ⟨Or.inr rfl, ⟨Or.inr rfl, ⟨Or.inr rfl, ⟨Or.inr (congrArg (fun z => some (vI z)) (nI_1 _).symm), ⟨Or.inr rfl, trivial⟩⟩⟩⟩⟩⟩⟩⟩⟩⟩⟩ (ih232 (i232 + 1) (by omega) (by omega))
                            · exact absurd rfl zc272
                    exact l_sub (loc' := [some (vR (7, 0, 0)), some (vI (nI k)), some (vI (1 : Int32)), some (vI (nI t0)), some (vI (nI t1)), some (vI (nI r0)), some (vI (nI r1)), some (vI (nI (kpL S (kp1 S k t0 t1) (sz S 3)).length)), some (vR (9, 6, 0)), some (vI (nI 0)), none]) ⟨Or.inr rfl, ⟨Or.inr rfl, ⟨Or.inr rfl, ⟨Or.inr rfl, ⟨Or.inr rfl, ⟨Or.inr rfl, ⟨Or.inr rfl, ⟨Or.inr rfl, ⟨Or.inr rfl, ⟨Or.inr rfl, ⟨Or.inr rfl, trivial⟩⟩⟩⟩⟩⟩⟩⟩⟩⟩⟩ (lp232 ((kpL S (kp1 S k t0 t1) (sz S 3)).length + 1) 0 (by omega) (by omega))
                  · exact absurd rfl zc224
      · rw [nI_leI (by omega) (by omega)] at zc52
        have hl44 := kp_le S (kp1 S k t0 t1) i44
        refine l_blk (pc' := 59) (loc' := [some (vR (7, 0, 0)), some (vI (nI k)), some (vI (1 : Int32)), some (vI (nI t0)), some (vI (nI t1)), some (vI (nI r0)), some (vI (nI r1)), some (vI (nI (kpL S (kp1 S k t0 t1) i44).length)), some (vR (9, 6, 0)), some (vI (nI i44)), none]) (st' := [vI (0 : Int32), vI (nI i44), vR (7, 0, 0)]) (B' := putB 6 (arrF (kpL S (kp1 S k t0 t1) i44)) B) [(55, .aload_n 0), (56, .iload 9), (58, .iconst 0)] (by decide +kernel) rfl rfl ?_
        refine l_callV (ce S 3 i44 0) ((S, (Hs, P)) : XS) [vI (nI i44), vI (0 : Int32)] [] vl_RL_110 mi_X4_swap (k_swap l (r_swap0 hB (show i44 < sz S 3 by omega))) rfl rfl rfl ⟨Nat.le_of_ble_eq_true rfl, Nat.le_of_ble_eq_true rfl⟩ rfl (Nat.le_of_ble_eq_true rfl) ⟨Nat.le_of_ble_eq_true rfl, Nat.le_of_ble_eq_true rfl⟩ (by decide +kernel) ?_
        refine l_blk (pc' := 63) (loc' := [some (vR (7, 0, 0)), some (vI (nI k)), some (vI (1 : Int32)), some (vI (nI t0)), some (vI (nI t1)), some (vI (nI r0)), some (vI (nI r1)), some (vI (nI (kpL S (kp1 S k t0 t1) i44).length)), some (vR (9, 6, 0)), some (vI (nI i44)), none]) (st' := [vI (nI t0), vI (ce S 3 i44 0)]) (B' := putB 6 (arrF (kpL S (kp1 S k t0 t1) i44)) B) [(62, .iload_n 3)] (by decide +kernel) rfl rfl ?_
        have hm63 : GL l (RL_ 7 1 12 224) cL_answers 11 (some .boolean) K 106 [6] (putB 6 (arrF (kpL S (kp1 S k t0 t1) i44)) B) [some (vR (7, 0, 0)), some (vI (nI k)), some (vI (1 : Int32)), some (vI (nI t0)), some (vI (nI t1)), some (vI (nI r0)), some (vI (nI r1)), some (vI (nI (kpL S (kp1 S k t0 t1) i44).length)), some (vR (9, 6, 0)), some (vI (nI i44)), none] [vI (wthS S (nI t0) (nI t1) i44)] ((S, (Hs, P)) : XS) 1 12 := by
          refine l_blk (pc' := 111) (loc' := [some (vR (7, 0, 0)), some (vI (nI k)), some (vI (1 : Int32)), some (vI (nI t0)), some (vI (nI t1)), some (vI (nI r0)), some (vI (nI r1)), some (vI (nI (kpL S (kp1 S k t0 t1) i44).length)), some (vR (9, 6, 0)), some (vI (nI i44)), some (vI (wthS S (nI t0) (nI t1) i44))]) (st' := [vI (nI k), vI (nI i44)]) (B' := putB 6 (arrF (kpL S (kp1 S k t0 t1) i44)) B) [(106, .istore 10), (108, .iload 9), (110, .iload_n 1)] (by decide +kernel) rfl rfl ?_
          refine l_icmp_eq (off := 45) (tgt := 156) (by decide +kernel) (by decide) (fun zc111 => ?_) (fun zc111 => ?_)
          · refine l_blk (pc' := 44) (loc' := [some (vR (7, 0, 0)), some (vI (nI k)), some (vI (1 : Int32)), some (vI (nI t0)), some (vI (nI t1)), some (vI (nI r0)), some (vI (nI r1)), some (vI (nI (kpL S (kp1 S k t0 t1) i44).length)), some (vR (9, 6, 0)), some (vI ((nI i44) + (1 : Int32))), some (vI (wthS S (nI t0) (nI t1) i44))]) (st' := []) (B' := putB 6 (arrF (kpL S (kp1 S k t0 t1) i44)) B) [(156, .iinc 9 1), (159, .goto (-115))] (by decide +kernel) rfl rfl ?_
            refine l_eq (B' := putB 6 (arrF (kpL S (kp1 S k t0 t1) (i44 + 1))) B) rfl rfl rfl (putB_c (congrArg arrF (kpL_n (kp1_k e0 (by omega) (by omega) zc111)).symm) (rfl)) rfl ?_
            exact l_sub (loc' := [some (vR (7, 0, 0)), some (vI (nI k)), some (vI (1 : Int32)), some (vI (nI t0)), some (vI (nI t1)), some (vI (nI r0)), some (vI (nI r1)), some (vI (nI (kpL S (kp1 S k t0 t1) (i44 + 1)).length)), some (vR (9, 6, 0)), some (vI (nI (i44 + 1))), none]) ⟨Or.inr rfl, ⟨Or.inr rfl, ⟨Or.inr rfl, ⟨Or.inr rfl, ⟨Or.inr rfl, ⟨Or.inr rfl, ⟨Or.inr rfl, ⟨Or.inr (congrArg (fun z => some (vI z)) (congrArg (fun z => nI z.length) (kpL_n (kp1_k e0 (by omega) (by omega) zc111)))), ⟨Or.inr rfl, ⟨Or.inr (congrArg (fun z => some (vI z)) (nI_1 _).symm), ⟨Or.inl rfl, trivial⟩⟩⟩⟩⟩⟩⟩⟩⟩⟩⟩ (ih44 (i44 + 1) (by omega) (by omega))
          · refine l_blk (pc' := 115) (loc' := [some (vR (7, 0, 0)), some (vI (nI k)), some (vI (1 : Int32)), some (vI (nI t0)), some (vI (nI t1)), some (vI (nI r0)), some (vI (nI r1)), some (vI (nI (kpL S (kp1 S k t0 t1) i44).length)), some (vR (9, 6, 0)), some (vI (nI i44)), some (vI (wthS S (nI t0) (nI t1) i44))]) (st' := [vI (1 : Int32)]) (B' := putB 6 (arrF (kpL S (kp1 S k t0 t1) i44)) B) [(114, .iload_n 2)] (by decide +kernel) rfl rfl ?_
            refine l_if_eq (off := 8) (tgt := 123) (by decide +kernel) (by decide) (fun zc115 => ?_) (fun zc115 => ?_)
            · exact absurd zc115 (by decide)
            · refine l_blk (pc' := 120) (loc' := [some (vR (7, 0, 0)), some (vI (nI k)), some (vI (1 : Int32)), some (vI (nI t0)), some (vI (nI t1)), some (vI (nI r0)), some (vI (nI r1)), some (vI (nI (kpL S (kp1 S k t0 t1) i44).length)), some (vR (9, 6, 0)), some (vI (nI i44)), some (vI (wthS S (nI t0) (nI t1) i44))]) (st' := [vI (wthS S (nI t0) (nI t1) i44)]) (B' := putB 6 (arrF (kpL S (kp1 S k t0 t1) i44)) B) [(118, .iload 10)] (by decide +kernel) rfl rfl ?_
              refine l_if_ne (off := 36) (tgt := 156) (by decide +kernel) (by decide) (fun zc120 => ?_) (fun zc120 => ?_)
              · refine l_blk (pc' := 44) (loc' := [some (vR (7, 0, 0)), some (vI (nI k)), some (vI (1 : Int32)), some (vI (nI t0)), some (vI (nI t1)), some (vI (nI r0)), some (vI (nI r1)), some (vI (nI (kpL S (kp1 S k t0 t1) i44).length)), some (vR (9, 6, 0)), some (vI ((nI i44) + (1 : Int32))), some (vI (wthS S (nI t0) (nI t1) i44))]) (st' := []) (B' := putB 6 (arrF (kpL S (kp1 S k t0 t1) i44)) B) [(156, .iinc 9 1), (159, .goto (-115))] (by decide +kernel) rfl rfl ?_
                refine l_eq (B' := putB 6 (arrF (kpL S (kp1 S k t0 t1) (i44 + 1))) B) rfl rfl rfl (putB_c (congrArg arrF (kpL_n (kp1_n zc120)).symm) (rfl)) rfl ?_
                exact l_sub (loc' := [some (vR (7, 0, 0)), some (vI (nI k)), some (vI (1 : Int32)), some (vI (nI t0)), some (vI (nI t1)), some (vI (nI r0)), some (vI (nI r1)), some (vI (nI (kpL S (kp1 S k t0 t1) (i44 + 1)).length)), some (vR (9, 6, 0)), some (vI (nI (i44 + 1))), none]) ⟨Or.inr rfl, ⟨Or.inr rfl, ⟨Or.inr rfl, ⟨Or.inr rfl, ⟨Or.inr rfl, ⟨Or.inr rfl, ⟨Or.inr rfl, ⟨Or.inr (congrArg (fun z => some (vI z)) (congrArg (fun z => nI z.length) (kpL_n (kp1_n zc120)))), ⟨Or.inr rfl, ⟨Or.inr (congrArg (fun z => some (vI z)) (nI_1 _).symm), ⟨Or.inl rfl, trivial⟩⟩⟩⟩⟩⟩⟩⟩⟩⟩⟩ (ih44 (i44 + 1) (by omega) (by omega))
              · refine l_blk (pc' := 133) (loc' := [some (vR (7, 0, 0)), some (vI (nI k)), some (vI (1 : Int32)), some (vI (nI t0)), some (vI (nI t1)), some (vI (nI r0)), some (vI (nI r1)), some (vI (nI (kpL S (kp1 S k t0 t1) i44).length)), some (vR (9, 6, 0)), some (vI (nI i44)), some (vI (wthS S (nI t0) (nI t1) i44))]) (st' := [vI (0 : Int32), vI (nI i44), vR (7, 0, 0), vI ((2 : Int32) * (nI (kpL S (kp1 S k t0 t1) i44).length)), vR (9, 6, 0)]) (B' := putB 6 (arrF (kpL S (kp1 S k t0 t1) i44)) B) [(123, .aload 8), (125, .iconst 2), (126, .iload 7), (128, .imul), (129, .aload_n 0), (130, .iload 9), (132, .iconst 0)] (by decide +kernel) rfl rfl ?_
                refine l_callV (ce S 3 i44 0) ((S, (Hs, P)) : XS) [vI (nI i44), vI (0 : Int32)] [vI ((2 : Int32) * (nI (kpL S (kp1 S k t0 t1) i44).length)), vR (9, 6, 0)] vl_RL_110 mi_X4_swap (k_swap l (r_swap0 hB (show i44 < sz S 3 by omega))) rfl rfl rfl ⟨Nat.le_of_ble_eq_true rfl, Nat.le_of_ble_eq_true rfl⟩ rfl (Nat.le_of_ble_eq_true rfl) ⟨Nat.le_of_ble_eq_true rfl, Nat.le_of_ble_eq_true rfl⟩ (by decide +kernel) ?_
                refine l_eq (st' := [vI (ce S 3 i44 0), vI (nI (2 * (kpL S (kp1 S k t0 t1) i44).length)), vR (9, 6, 0)]) rfl rfl (congrArg (fun z => [vI (ce S 3 i44 0), vI z, vR (9, 6, 0)]) (pk_mul 2 _)) rfl rfl ?_
                refine l_ast 6 (i := 2 * (kpL S (kp1 S k t0 t1) i44).length) (B' := putB 6 (upd (arrF (kpL S (kp1 S k t0 t1) i44)) (2 * (kpL S (kp1 S k t0 t1) i44).length) (ce S 3 i44 0)) B) (by decide) (show 2 * (kpL S (kp1 S k t0 t1) i44).length < 12 by omega) (updB_hd) (by decide +kernel) ?_
                refine l_blk (pc' := 149) (loc' := [some (vR (7, 0, 0)), some (vI (nI k)), some (vI (1 : Int32)), some (vI (nI t0)), some (vI (nI t1)), some (vI (nI r0)), some (vI (nI r1)), some (vI (nI (kpL S (kp1 S k t0 t1) i44).length)), some (vR (9, 6, 0)), some (vI (nI i44)), some (vI (wthS S (nI t0) (nI t1) i44))]) (st' := [vI (1 : Int32), vI (nI i44), vR (7, 0, 0), vI (((2 : Int32) * (nI (kpL S (kp1 S k t0 t1) i44).length)) + (1 : Int32)), vR (9, 6, 0)]) (B' := putB 6 (upd (arrF (kpL S (kp1 S k t0 t1) i44)) (2 * (kpL S (kp1 S k t0 t1) i44).length) (ce S 3 i44 0)) B) [(137, .aload 8), (139, .iconst 2), (140, .iload 7), (142, .imul), (143, .iconst 1), (144, .iadd), (145, .aload_n 0), (146, .iload 9), (148, .iconst 1)] (by decide +kernel) rfl rfl ?_
                refine l_callV (ce S 3 i44 1) ((S, (Hs, P)) : XS) [vI (nI i44), vI (1 : Int32)] [vI (((2 : Int32) * (nI (kpL S (kp1 S k t0 t1) i44).length)) + (1 : Int32)), vR (9, 6, 0)] vl_RL_110 mi_X4_swap (k_swap l (r_swap1 hB (show i44 < sz S 3 by omega))) rfl rfl rfl ⟨Nat.le_of_ble_eq_true rfl, Nat.le_of_ble_eq_true rfl⟩ rfl (Nat.le_of_ble_eq_true rfl) ⟨Nat.le_of_ble_eq_true rfl, Nat.le_of_ble_eq_true rfl⟩ (by decide +kernel) ?_
                refine l_eq (st' := [vI (ce S 3 i44 1), vI (nI (2 * (kpL S (kp1 S k t0 t1) i44).length + 1)), vR (9, 6, 0)]) rfl rfl (congrArg (fun z => [vI (ce S 3 i44 1), vI z, vR (9, 6, 0)]) (mul21 _)) rfl rfl ?_
                refine l_ast 6 (i := 2 * (kpL S (kp1 S k t0 t1) i44).length + 1) (B' := putB 6 (upd (upd (arrF (kpL S (kp1 S k t0 t1) i44)) (2 * (kpL S (kp1 S k t0 t1) i44).length) (ce S 3 i44 0)) (2 * (kpL S (kp1 S k t0 t1) i44).length + 1) (ce S 3 i44 1)) B) (by decide) (show 2 * (kpL S (kp1 S k t0 t1) i44).length + 1 < 12 by omega) (updB_hd) (by decide +kernel) ?_
                refine l_blk (pc' := 44) (loc' := [some (vR (7, 0, 0)), some (vI (nI k)), some (vI (1 : Int32)), some (vI (nI t0)), some (vI (nI t1)), some (vI (nI r0)), some (vI (nI r1)), some (vI ((nI (kpL S (kp1 S k t0 t1) i44).length) + (1 : Int32))), some (vR (9, 6, 0)), some (vI ((nI i44) + (1 : Int32))), some (vI (wthS S (nI t0) (nI t1) i44))]) (st' := []) (B' := putB 6 (upd (upd (arrF (kpL S (kp1 S k t0 t1) i44)) (2 * (kpL S (kp1 S k t0 t1) i44).length) (ce S 3 i44 0)) (2 * (kpL S (kp1 S k t0 t1) i44).length + 1) (ce S 3 i44 1)) B) [(153, .iinc 7 1), (156, .iinc 9 1), (159, .goto (-115))] (by decide +kernel) rfl rfl ?_
                refine l_eq (B' := putB 6 (arrF (kpL S (kp1 S k t0 t1) (i44 + 1))) B) rfl rfl rfl (putB_c (arr_s.trans (congrArg arrF (kpL_y (kp1_y (by omega) (by omega) zc111 zc120)).symm)) (rfl)) rfl ?_
                exact l_sub (loc' := [some (vR (7, 0, 0)), some (vI (nI k)), some (vI (1 : Int32)), some (vI (nI t0)), some (vI (nI t1)), some (vI (nI r0)), some (vI (nI r1)), some (vI (nI (kpL S (kp1 S k t0 t1) (i44 + 1)).length)), some (vR (9, 6, 0)), some (vI (nI (i44 + 1))), none]) ⟨Or.inr rfl, ⟨Or.inr rfl, ⟨Or.inr rfl, ⟨Or.inr rfl, ⟨Or.inr rfl, ⟨Or.inr rfl, ⟨Or.inr rfl, ⟨Or.inr (congrArg (fun z => some (vI z)) (kpl_y (kp1_y (by omega) (by omega) zc111 zc120))), ⟨Or.inr rfl, ⟨Or.inr (congrArg (fun z => some (vI z)) (nI_1 _).symm), ⟨Or.inl rfl, trivial⟩⟩⟩⟩⟩⟩⟩⟩⟩⟩⟩ (ih44 (i44 + 1) (by omega) (by omega))
        refine l_icmp_eq (off := 38) (tgt := 101) (by decide +kernel) (by decide) (fun zc63 => ?_) (fun zc63 => ?_)
        · refine l_blk (pc' := 106) (loc' := [some (vR (7, 0, 0)), some (vI (nI k)), some (vI (1 : Int32)), some (vI (nI t0)), some (vI (nI t1)), some (vI (nI r0)), some (vI (nI r1)), some (vI (nI (kpL S (kp1 S k t0 t1) i44).length)), some (vR (9, 6, 0)), some (vI (nI i44)), none]) (st' := [vI (1 : Int32)]) (B' := putB 6 (arrF (kpL S (kp1 S k t0 t1) i44)) B) [(101, .iconst 1), (102, .goto 4)] (by decide +kernel) rfl rfl ?_
          exact l_st ((wth_a zc63).symm) hm63
        · refine l_blk (pc' := 70) (loc' := [some (vR (7, 0, 0)), some (vI (nI k)), some (vI (1 : Int32)), some (vI (nI t0)), some (vI (nI t1)), some (vI (nI r0)), some (vI (nI r1)), some (vI (nI (kpL S (kp1 S k t0 t1) i44).length)), some (vR (9, 6, 0)), some (vI (nI i44)), none]) (st' := [vI (1 : Int32), vI (nI i44), vR (7, 0, 0)]) (B' := putB 6 (arrF (kpL S (kp1 S k t0 t1) i44)) B) [(66, .aload_n 0), (67, .iload 9), (69, .iconst 1)] (by decide +kernel) rfl rfl ?_
          refine l_callV (ce S 3 i44 1) ((S, (Hs, P)) : XS) [vI (nI i44), vI (1 : Int32)] [] vl_RL_110 mi_X4_swap (k_swap l (r_swap1 hB (show i44 < sz S 3 by omega))) rfl rfl rfl ⟨Nat.le_of_ble_eq_true rfl, Nat.le_of_ble_eq_true rfl⟩ rfl (Nat.le_of_ble_eq_true rfl) ⟨Nat.le_of_ble_eq_true rfl, Nat.le_of_ble_eq_true rfl⟩ (by decide +kernel) ?_
          refine l_blk (pc' := 74) (loc' := [some (vR (7, 0, 0)), some (vI (nI k)), some (vI (1 : Int32)), some (vI (nI t0)), some (vI (nI t1)), some (vI (nI r0)), some (vI (nI r1)), some (vI (nI (kpL S (kp1 S k t0 t1) i44).length)), some (vR (9, 6, 0)), some (vI (nI i44)), none]) (st' := [vI (nI t0), vI (ce S 3 i44 1)]) (B' := putB 6 (arrF (kpL S (kp1 S k t0 t1) i44)) B) [(73, .iload_n 3)] (by decide +kernel) rfl rfl ?_
          refine l_icmp_eq (off := 27) (tgt := 101) (by decide +kernel) (by decide) (fun zc74 => ?_) (fun zc74 => ?_)
          · refine l_blk (pc' := 106) (loc' := [some (vR (7, 0, 0)), some (vI (nI k)), some (vI (1 : Int32)), some (vI (nI t0)), some (vI (nI t1)), some (vI (nI r0)), some (vI (nI r1)), some (vI (nI (kpL S (kp1 S k t0 t1) i44).length)), some (vR (9, 6, 0)), some (vI (nI i44)), none]) (st' := [vI (1 : Int32)]) (B' := putB 6 (arrF (kpL S (kp1 S k t0 t1) i44)) B) [(101, .iconst 1), (102, .goto 4)] (by decide +kernel) rfl rfl ?_
            exact l_st ((wth_b zc74).symm) hm63
          · refine l_blk (pc' := 81) (loc' := [some (vR (7, 0, 0)), some (vI (nI k)), some (vI (1 : Int32)), some (vI (nI t0)), some (vI (nI t1)), some (vI (nI r0)), some (vI (nI r1)), some (vI (nI (kpL S (kp1 S k t0 t1) i44).length)), some (vR (9, 6, 0)), some (vI (nI i44)), none]) (st' := [vI (0 : Int32), vI (nI i44), vR (7, 0, 0)]) (B' := putB 6 (arrF (kpL S (kp1 S k t0 t1) i44)) B) [(77, .aload_n 0), (78, .iload 9), (80, .iconst 0)] (by decide +kernel) rfl rfl ?_
            refine l_callV (ce S 3 i44 0) ((S, (Hs, P)) : XS) [vI (nI i44), vI (0 : Int32)] [] vl_RL_110 mi_X4_swap (k_swap l (r_swap0 hB (show i44 < sz S 3 by omega))) rfl rfl rfl ⟨Nat.le_of_ble_eq_true rfl, Nat.le_of_ble_eq_true rfl⟩ rfl (Nat.le_of_ble_eq_true rfl) ⟨Nat.le_of_ble_eq_true rfl, Nat.le_of_ble_eq_true rfl⟩ (by decide +kernel) ?_
            refine l_blk (pc' := 86) (loc' := [some (vR (7, 0, 0)), some (vI (nI k)), some (vI (1 : Int32)), some (vI (nI t0)), some (vI (nI t1)), some (vI (nI r0)), some (vI (nI r1)), some (vI (nI (kpL S (kp1 S k t0 t1) i44).length)), some (vR (9, 6, 0)), some (vI (nI i44)), none]) (st' := [vI (nI t1), vI (ce S 3 i44 0)]) (B' := putB 6 (arrF (kpL S (kp1 S k t0 t1) i44)) B) [(84, .iload 4)] (by decide +kernel) rfl rfl ?_
            refine l_icmp_eq (off := 15) (tgt := 101) (by decide +kernel) (by decide) (fun zc86 => ?_) (fun zc86 => ?_)
            · refine l_blk (pc' := 106) (loc' := [some (vR (7, 0, 0)), some (vI (nI k)), some (vI (1 : Int32)), some (vI (nI t0)), some (vI (nI t1)), some (vI (nI r0)), some (vI (nI r1)), some (vI (nI (kpL S (kp1 S k t0 t1) i44).length)), some (vR (9, 6, 0)), some (vI (nI i44)), none]) (st' := [vI (1 : Int32)]) (B' := putB 6 (arrF (kpL S (kp1 S k t0 t1) i44)) B) [(101, .iconst 1), (102, .goto 4)] (by decide +kernel) rfl rfl ?_
              exact l_st ((wth_c zc86).symm) hm63
            · refine l_blk (pc' := 93) (loc' := [some (vR (7, 0, 0)), some (vI (nI k)), some (vI (1 : Int32)), some (vI (nI t0)), some (vI (nI t1)), some (vI (nI r0)), some (vI (nI r1)), some (vI (nI (kpL S (kp1 S k t0 t1) i44).length)), some (vR (9, 6, 0)), some (vI (nI i44)), none]) (st' := [vI (1 : Int32), vI (nI i44), vR (7, 0, 0)]) (B' := putB 6 (arrF (kpL S (kp1 S k t0 t1) i44)) B) [(89, .aload_n 0), (90, .iload 9), (92, .iconst 1)] (by decide +kernel) rfl rfl ?_
              refine l_callV (ce S 3 i44 1) ((S, (Hs, P)) : XS) [vI (nI i44), vI (1 : Int32)] [] vl_RL_110 mi_X4_swap (k_swap l (r_swap1 hB (show i44 < sz S 3 by omega))) rfl rfl rfl ⟨Nat.le_of_ble_eq_true rfl, Nat.le_of_ble_eq_true rfl⟩ rfl (Nat.le_of_ble_eq_true rfl) ⟨Nat.le_of_ble_eq_true rfl, Nat.le_of_ble_eq_true rfl⟩ (by decide +kernel) ?_
              refine l_blk (pc' := 98) (loc' := [some (vR (7, 0, 0)), some (vI (nI k)), some (vI (1 : Int32)), some (vI (nI t0)), some (vI (nI t1)), some (vI (nI r0)), some (vI (nI r1)), some (vI (nI (kpL S (kp1 S k t0 t1) i44).length)), some (vR (9, 6, 0)), some (vI (nI i44)), none]) (st' := [vI (nI t1), vI (ce S 3 i44 1)]) (B' := putB 6 (arrF (kpL S (kp1 S k t0 t1) i44)) B) [(96, .iload 4)] (by decide +kernel) rfl rfl ?_
              refine l_icmp_ne (off := 7) (tgt := 105) (by decide +kernel) (by decide) (fun zc98 => ?_) (fun zc98 => ?_)
              · refine l_blk (pc' := 106) (loc' := [some (vR (7, 0, 0)), some (vI (nI k)), some (vI (1 : Int32)), some (vI (nI t0)), some (vI (nI t1)), some (vI (nI r0)), some (vI (nI r1)), some (vI (nI (kpL S (kp1 S k t0 t1) i44).length)), some (vR (9, 6, 0)), some (vI (nI i44)), none]) (st' := [vI (0 : Int32)]) (B' := putB 6 (arrF (kpL S (kp1 S k t0 t1) i44)) B) [(105, .iconst 0)] (by decide +kernel) rfl rfl ?_
                exact l_st ((wth_n zc63 zc74 zc86 zc98).symm) hm63
              · refine l_blk (pc' := 106) (loc' := [some (vR (7, 0, 0)), some (vI (nI k)), some (vI (1 : Int32)), some (vI (nI t0)), some (vI (nI t1)), some (vI (nI r0)), some (vI (nI r1)), some (vI (nI (kpL S (kp1 S k t0 t1) i44).length)), some (vR (9, 6, 0)), some (vI (nI i44)), none]) (st' := [vI (1 : Int32)]) (B' := putB 6 (arrF (kpL S (kp1 S k t0 t1) i44)) B) [(101, .iconst 1), (102, .goto 4)] (by decide +kernel) rfl rfl ?_
                exact l_st ((wth_d zc98).symm) hm63
  refine l_eq (B' := putB 6 (arrF (kpL S (kp1 S k t0 t1) 0)) B) rfl rfl rfl (putB_c (arr_0) (rfl)) rfl ?_
  exact l_sub (loc' := [some (vR (7, 0, 0)), some (vI (nI k)), some (vI (1 : Int32)), some (vI (nI t0)), some (vI (nI t1)), some (vI (nI r0)), some (vI (nI r1)), some (vI (nI (kpL S (kp1 S k t0 t1) 0).length)), some (vR (9, 6, 0)), some (vI (nI 0)), none]) ⟨Or.inr rfl, ⟨Or.inr rfl, ⟨Or.inr rfl, ⟨Or.inr rfl, ⟨Or.inr rfl, ⟨Or.inr rfl, ⟨Or.inr rfl, ⟨Or.inr rfl, ⟨Or.inr rfl, ⟨Or.inr rfl, ⟨Or.inr rfl, trivial⟩⟩⟩⟩⟩⟩⟩⟩⟩⟩⟩ (lp44 (sz S 3 + 1) 0 (by omega) (by omega))
