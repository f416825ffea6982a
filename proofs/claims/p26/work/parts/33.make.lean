/-! MAKING the tasks of a week: the class takes the greatest again and again, the model puts each one into its place -/
abbrev Tr : Type := Int32 × (Int32 × Int32)
def insF (x : Tr) : List Tr → List Tr
  | [] => [x]
  | y :: l => if x.2.1 ≤ y.2.1 then y :: insF x l else x :: y :: l
theorem insF_len (x : Tr) : ∀ l, (insF x l).length = l.length + 1
  | [] => rfl
  | y :: l => by
    rw [insF]
    split
    · rw [List.length_cons, insF_len x l, List.length_cons]
    · rfl
theorem insF_get {x : Tr} : ∀ (l : List Tr) (p j : Nat), p ≤ l.length → (∀ i y, i < p → l[i]? = some y → x.2.1 ≤ y.2.1) → (∀ i y, p ≤ i → l[i]? = some y → ¬ x.2.1 ≤ y.2.1) → (insF x l)[j]? = if j < p then l[j]? else if j = p then some x else l[j - 1]?
  | [], p, j, hp, _, _ => by
    have hp : p = 0 := Nat.le_zero.mp hp
    subst hp
    rw [insF, if_neg (Nat.not_lt_zero _)]
    cases j with
    | zero => rw [if_pos rfl]; rfl
    | succ j => rw [if_neg (by omega)]; simp
  | y :: l, p, j, hp, h1, h2 => by
    rw [insF]
    by_cases q : x.2.1 ≤ y.2.1
    · rw [if_pos q]
      cases p with
      | zero => exact absurd q (h2 0 y (Nat.le_refl _) rfl)
      | succ p =>
        cases j with
        | zero => rw [if_pos (by omega)]; rfl
        | succ j =>
          rw [List.getElem?_cons_succ, insF_get l p j (by simp at hp; omega) (fun i z hi hz => h1 (i + 1) z (by omega) (by rw [List.getElem?_cons_succ]; exact hz)) (fun i z hi hz => h2 (i + 1) z (by omega) (by rw [List.getElem?_cons_succ]; exact hz))]
          by_cases c1 : j < p
          · rw [if_pos c1, if_pos (show j + 1 < p + 1 by omega), List.getElem?_cons_succ]
          · rw [if_neg c1, if_neg (show ¬ j + 1 < p + 1 by omega)]
            by_cases c2 : j = p
            · rw [if_pos c2, if_pos (show j + 1 = p + 1 by omega)]
            · rw [if_neg c2, if_neg (show ¬ j + 1 = p + 1 by omega), show j + 1 - 1 = (j - 1) + 1 by omega, List.getElem?_cons_succ]
    · rw [if_neg q]
      cases p with
      | zero =>
        rw [if_neg (Nat.not_lt_zero _)]
        cases j with
        | zero => rw [if_pos rfl]; rfl
        | succ j => rw [if_neg (by omega), List.getElem?_cons_succ]; rfl
      | succ p => exact absurd (h1 0 y (by omega) rfl) q
theorem insF_past {x : Tr} : ∀ (A B : List Tr), (∀ y ∈ A, x.2.1 ≤ y.2.1) → insF x (A ++ B) = A ++ insF x B
  | [], _, _ => rfl
  | y :: A, B, h => by
    rw [List.cons_append, insF, if_pos (h y List.mem_cons_self), insF_past A B (fun z hz => h z (List.mem_cons_of_mem _ hz)), List.cons_append]
theorem insF_head {x : Tr} : ∀ (L : List Tr), (∀ y ∈ L, ¬ x.2.1 ≤ y.2.1) → insF x L = x :: L
  | [], _ => rfl
  | y :: L, h => by rw [insF, if_neg (h y List.mem_cons_self)]
theorem insF_mem {x z : Tr} : ∀ (L : List Tr), z ∈ insF x L → z = x ∨ z ∈ L
  | [], h => Or.inl (List.mem_singleton.mp h)
  | y :: L, h => by
    rw [insF] at h
    split at h
    · rcases List.mem_cons.mp h with q | q
      · exact Or.inr (q ▸ List.mem_cons_self)
      · exact (insF_mem L q).imp id (List.mem_cons_of_mem _)
    · rcases List.mem_cons.mp h with q | q
      · exact Or.inl q
      · exact Or.inr q
def SrtD (L : List Tr) : Prop := L.Pairwise (fun x y => y.2.1 ≤ x.2.1)
theorem insF_srt {x : Tr} : ∀ (L : List Tr), SrtD L → SrtD (insF x L)
  | [], _ => List.pairwise_singleton _ _
  | y :: L, h => by
    rw [insF]
    obtain ⟨h1, h2⟩ := List.pairwise_cons.mp h
    split
    · rename_i q
      refine List.pairwise_cons.mpr ⟨fun z hz => ?_, insF_srt L h2⟩
      rcases insF_mem L hz with e | e
      · rw [e]; exact q
      · exact h1 z e
    · rename_i q
      have q' : y.2.1 ≤ x.2.1 := Int32.le_of_lt (Int32.not_le.mp q)
      refine List.pairwise_cons.mpr ⟨fun z hz => ?_, h⟩
      rcases List.mem_cons.mp hz with e | e
      · rw [e]; exact q'
      · exact Int32.le_trans (h1 z e) q'
-- the tasks of an area
def tkL (S : HA) (a : Nat) : List Tr := if deepS S (nI a) = 0 then (if dueS S (nI a) = 0 then [] else [(nI a, (effS S (nI a), 0))]) else [(nI a, (effS S (nI a), 1)), (nI a, (effS S (nI a), 1))]
def insA (l : List Tr) (L : List Tr) : List Tr := l.foldl (fun L x => insF x L) L
-- the places of all tasks of the areas below n that are not finished
def IL (S : HA) (F : Nat → Bool) : Nat → List Tr
  | 0 => []
  | n + 1 => if F n = true then IL S F n else insA (tkL S n) (IL S F n)
theorem eff_val {S : HA} (hV : VA S) (hb : sz S 1 ≤ 6) {a : Nat} (ha : a < sz S 1) : (effS S (nI a) = 0 ∧ tkL S a = []) ∨ ∃ e, 1 ≤ e ∧ e ≤ 60 ∧ effS S (nI a) = nI e ∧ ((tkL S a = [(nI a, (nI e, 0))]) ∨ tkL S a = [(nI a, (nI e, 1)), (nI a, (nI e, 1))]) := by
  obtain ⟨⟨e, e1, e2, e3⟩, -⟩ := hV.1 a ha
  obtain ⟨d, d1, d2, d3⟩ := hV.2
  have h0 : cl S 1 (nI a) 0 = nI e := by rw [cl0 (by omega)]; exact e3
  have h4 : cl S 4 0 2 = nI d := by rw [show cl S 4 0 2 = ce S 4 0 2 from cl2 (r := 0) (by decide)]; exact d3
  unfold tkL
  rw [effS, h0, h4]
  by_cases hd : deepS S (nI a) = 0
  · rw [if_pos hd]
    by_cases hu : dueS S (nI a) = 0
    · left; rw [if_pos hu, if_pos hd, if_pos hu]; exact ⟨rfl, rfl⟩
    · right
      rw [if_neg hu, if_pos hd, if_neg hu]
      exact ⟨e, e1, by omega, rfl, Or.inl rfl⟩
  · right
    rw [if_neg hd, if_neg hd]
    have hz : (nI d * nI e + 1) / 2 = nI ((d * e + 1) / 2) := (by decide +kernel : ∀ d, d < 7 → ∀ e, e < 21 → (nI d * nI e + 1) / 2 = nI ((d * e + 1) / 2)) d (by omega) e (by omega)
    have hbd : 1 ≤ (d * e + 1) / 2 ∧ (d * e + 1) / 2 ≤ 60 := (by decide +kernel : ∀ d, d < 7 → 2 ≤ d → ∀ e, e < 21 → 1 ≤ e → 1 ≤ (d * e + 1) / 2 ∧ (d * e + 1) / 2 ≤ 60) d (by omega) d1 e (by omega) e1
    rw [hz]
    exact ⟨_, hbd.1, hbd.2, rfl, Or.inr rfl⟩
def addF (F : Nat → Bool) (a : Nat) : Nat → Bool := fun i => F i || i == a
theorem IL_congr {S : HA} {F F' : Nat → Bool} : ∀ n, (∀ i, i < n → F i = F' i) → IL S F n = IL S F' n
  | 0, _ => rfl
  | n + 1, h => by rw [IL, IL, h n (by omega), IL_congr n (fun i hi => h i (by omega))]
theorem insA_mem {z : Tr} : ∀ (l L : List Tr), z ∈ insA l L → z ∈ l ∨ z ∈ L
  | [], _, h => Or.inr h
  | x :: l, L, h => by
    rcases insA_mem l (insF x L) h with q | q
    · exact Or.inl (List.mem_cons_of_mem _ q)
    · rcases insF_mem L q with e | e
      · exact Or.inl (e ▸ List.mem_cons_self)
      · exact Or.inr e
theorem insA_srt : ∀ (l L : List Tr), SrtD L → SrtD (insA l L)
  | [], _, h => h
  | x :: l, L, h => insA_srt l (insF x L) (insF_srt L h)
theorem IL_srt {S : HA} {F : Nat → Bool} : ∀ n, SrtD (IL S F n)
  | 0 => List.Pairwise.nil
  | n + 1 => by
    rw [IL]
    split
    · exact IL_srt n
    · exact insA_srt _ _ (IL_srt n)
theorem tk_mem {S : HA} {a : Nat} {z : Tr} (h : z ∈ tkL S a) : z.1 = nI a ∧ z.2.1 = effS S (nI a) ∧ (z.2.2 = 0 ∨ z.2.2 = 1) := by
  unfold tkL at h
  split at h
  · split at h
    · exact absurd h (List.not_mem_nil)
    · rw [List.mem_singleton.mp h]; exact ⟨rfl, rfl, Or.inl rfl⟩
  · rcases List.mem_cons.mp h with q | q
    · rw [q]; exact ⟨rfl, rfl, Or.inr rfl⟩
    · rw [List.mem_singleton.mp q]; exact ⟨rfl, rfl, Or.inr rfl⟩
theorem IL_mem {S : HA} {F : Nat → Bool} {z : Tr} : ∀ n, z ∈ IL S F n → ∃ a, a < n ∧ F a = false ∧ z ∈ tkL S a
  | 0, h => absurd h (List.not_mem_nil)
  | n + 1, h => by
    rw [IL] at h
    by_cases q : F n = true
    · rw [if_pos q] at h
      obtain ⟨a, h1, h2⟩ := IL_mem n h
      exact ⟨a, by omega, h2⟩
    · rw [if_neg q] at h
      rcases insA_mem _ _ h with e | e
      · exact ⟨n, by omega, by simpa using q, e⟩
      · obtain ⟨a, h1, h2⟩ := IL_mem n e
        exact ⟨a, by omega, h2⟩
-- the class's choice is the head of the places
def bitF (f : Int32) (i : Nat) : Bool := decide (¬ (f >>> (nI i &&& 31)) &&& 1 = 0)
theorem next_ok {S : HA} (hV : VA S) (hb : sz S 1 ≤ 6) (f : Int32) : ∀ n, n ≤ sz S 1 →
    ((nextL S f n).1 = -6 ∧ (nextL S f n).2 = 0 ∧ IL S (bitF f) n = []) ∨
    ∃ a, a < n ∧ bitF f a = false ∧ (nextL S f n).1 = nI a ∧ (nextL S f n).2 = effS S (nI a) ∧ IL S (bitF f) n = tkL S a ++ IL S (addF (bitF f) a) n ∧ (∀ z ∈ IL S (bitF f) n, z.2.1 ≤ effS S (nI a)) ∧ ¬ effS S (nI a) ≤ 0
  | 0, _ => Or.inl ⟨rfl, rfl, rfl⟩
  | n + 1, hn => by
    have ih := next_ok hV hb f n (by omega)
    rw [nextL, IL]
    by_cases hF : ¬ (f >>> (nI n &&& 31)) &&& 1 = 0
    · have hF' : bitF f n = true := decide_eq_true hF
      rw [if_pos hF, if_pos hF']
      rcases ih with h | ⟨a, h1, h2, h3, h4, h5, h6, h7⟩
      · exact Or.inl h
      · refine Or.inr ⟨a, by omega, h2, h3, h4, ?_, h6, h7⟩
        rw [h5, IL, if_pos (by unfold addF; rw [hF']; rfl)]
    · have hF' : bitF f n = false := decide_eq_false hF
      rw [if_neg hF, if_neg (show ¬ bitF f n = true by rw [hF']; decide)]
      rcases eff_val hV hb (show n < sz S 1 by omega) with ⟨e0, e1⟩ | ⟨e, e1, e2, e3, e4⟩
      · -- no task of this area
        rw [e1]
        have hle : effS S (nI n) ≤ (nextL S f n).2 := by
          rw [e0]
          rcases ih with ⟨-, h, -⟩ | ⟨a, -, -, -, h, -, -, h7⟩
          · rw [h]; decide
          · rw [h]; exact Int32.le_of_lt (Int32.not_le.mp h7)
        rw [if_pos hle]
        rcases ih with h | ⟨a, h1, h2, h3, h4, h5, h6, h7⟩
        · exact Or.inl h
        · refine Or.inr ⟨a, by omega, h2, h3, h4, ?_, h6, h7⟩
          have hna : addF (bitF f) a n = false := by unfold addF; rw [hF']; simp; omega
          rw [IL, if_neg (by rw [hna]; decide), e1]
          exact h5
      · have hpos : ¬ effS S (nI n) ≤ 0 := by rw [e3]; exact nI_ge (b := e) (a := 0) (by omega) (by omega)
        have cost : ∀ z ∈ tkL S n, z.2.1 = effS S (nI n) := fun z hz => (tk_mem hz).2.1
        by_cases hle : effS S (nI n) ≤ (nextL S f n).2
        · rw [if_pos hle]
          rcases ih with ⟨-, h, -⟩ | ⟨a, h1, h2, h3, h4, h5, h6, h7⟩
          · rw [h] at hle; exact absurd hle hpos
          · rw [h4] at hle
            have hna : addF (bitF f) a n = false := by unfold addF; rw [hF']; simp; omega
            refine Or.inr ⟨a, by omega, h2, h3, h4, ?_, fun z hz => ?_, h7⟩
            · rw [IL, if_neg (by rw [hna]; decide), h5]
              have ca : ∀ z ∈ tkL S a, z.2.1 = effS S (nI a) := fun z hz => (tk_mem hz).2.1
              have past : ∀ (l : List Tr) (B : List Tr), (∀ x ∈ l, x.2.1 ≤ effS S (nI a)) → insA l (tkL S a ++ B) = tkL S a ++ insA l B := by
                intro l
                induction l with
                | nil => intro B _; rfl
                | cons x l ihl =>
                  intro B hx
                  show insA l (insF x (tkL S a ++ B)) = tkL S a ++ insA l (insF x B)
                  rw [insF_past _ _ (fun y hy => by rw [ca y hy]; exact hx x List.mem_cons_self), ihl _ (fun y hy => hx y (List.mem_cons_of_mem _ hy))]
              exact past _ _ (fun x hx => by rw [cost x hx]; exact hle)
            · rcases insA_mem _ _ hz with q | q
              · rw [cost z q]; exact hle
              · exact h6 z q
        · rw [if_neg hle]
          have hna : IL S (addF (bitF f) n) n = IL S (bitF f) n := IL_congr n (fun i hi => by unfold addF; simp; omega)
          have small : ∀ y ∈ IL S (bitF f) n, ¬ effS S (nI n) ≤ y.2.1 := by
            rcases ih with ⟨-, -, h⟩ | ⟨a, h1, h2, h3, h4, h5, h6, h7⟩
            · rw [h]; intro y hy; exact absurd hy (List.not_mem_nil)
            · intro y hy q
              rw [h4] at hle
              exact hle (Int32.le_trans q (h6 y hy))
          refine Or.inr ⟨n, by omega, hF', rfl, rfl, ?_, fun z hz => ?_, hpos⟩
          · rw [IL, if_pos (by unfold addF; simp), hna]
            rcases e4 with q | q
            · rw [q]
              show insF _ _ = _
              rw [insF_head _ (fun y hy => by show ¬ nI e ≤ y.2.1; rw [← e3]; exact small y hy)]
              rfl
            · rw [q]
              show insF _ (insF _ _) = _
              rw [insF_head (IL S (bitF f) n) (fun y hy => by show ¬ nI e ≤ y.2.1; rw [← e3]; exact small y hy), insF, if_pos (Int32.le_refl _), insF_head (IL S (bitF f) n) (fun y hy => by show ¬ nI e ≤ y.2.1; rw [← e3]; exact small y hy)]
              rfl
          · rcases insA_mem _ _ hz with q | q
            · rw [cost z q]; exact Int32.le_refl _
            · exact Int32.le_of_lt (Int32.not_le.mp (small z q))
