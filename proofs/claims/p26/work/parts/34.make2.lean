/-! THE LIST of a week's tasks: in the class's table and in the model's row -/
def TWL (L : List Tr) : Prop := (∀ (t u : Nat) (x y : Tr), t < u → L[t]? = some x → L[u]? = some y → x.1 = y.1 → u = t + 1 ∧ x.2.2 = 1 ∧ y.2.2 = 1) ∧ ∀ (t : Nat) (x : Tr), L[t]? = some x → x.2.2 = 1 → (∃ y : Tr, L[t + 1]? = some y ∧ y.1 = x.1) ∨ ∃ (u : Nat) (y : Tr), t = u + 1 ∧ L[u]? = some y ∧ y.1 = x.1
theorem twl_nil : TWL [] := ⟨fun t u x y _ h => by simp at h, fun t x h => by simp at h⟩
theorem twl_1 {x : Tr} {L : List Tr} (h : TWL L) (hn : ∀ z ∈ L, z.1 ≠ x.1) (h0 : ¬ x.2.2 = 1) : TWL (x :: L) := by
  refine ⟨fun t u y z htu h1 h2 h3 => ?_, fun t y h1 h2 => ?_⟩
  · cases u with
    | zero => exact absurd htu (Nat.not_lt_zero _)
    | succ u =>
      rw [List.getElem?_cons_succ] at h2
      cases t with
      | zero =>
        rw [List.getElem?_cons_zero] at h1
        cases h1
        exact absurd h3.symm (hn z (List.mem_of_getElem? h2))
      | succ t =>
        rw [List.getElem?_cons_succ] at h1
        obtain ⟨g1, g2⟩ := h.1 t u y z (by omega) h1 h2 h3
        exact ⟨by omega, g2⟩
  · cases t with
    | zero =>
      rw [List.getElem?_cons_zero] at h1
      cases h1
      exact absurd h2 h0
    | succ t =>
      rw [List.getElem?_cons_succ] at h1
      rcases h.2 t y h1 h2 with ⟨w, g1, g2⟩ | ⟨u, w, g1, g2, g3⟩
      · exact Or.inl ⟨w, by rw [List.getElem?_cons_succ]; exact g1, g2⟩
      · exact Or.inr ⟨u + 1, w, by omega, by rw [List.getElem?_cons_succ]; exact g2, g3⟩
theorem twl_2 {x : Tr} {L : List Tr} (h : TWL L) (hn : ∀ z ∈ L, z.1 ≠ x.1) (h1x : x.2.2 = 1) : TWL (x :: x :: L) := by
  refine ⟨fun t u y z htu h1 h2 h3 => ?_, fun t y h1 h2 => ?_⟩
  · cases u with
    | zero => exact absurd htu (Nat.not_lt_zero _)
    | succ u =>
      rw [List.getElem?_cons_succ] at h2
      cases u with
      | zero =>
        rw [List.getElem?_cons_zero] at h2
        cases h2
        obtain rfl : t = 0 := by omega
        rw [List.getElem?_cons_zero] at h1
        cases h1
        exact ⟨rfl, h1x, h1x⟩
      | succ u =>
        rw [List.getElem?_cons_succ] at h2
        cases t with
        | zero =>
          rw [List.getElem?_cons_zero] at h1
          cases h1
          exact absurd h3.symm (hn z (List.mem_of_getElem? h2))
        | succ t =>
          rw [List.getElem?_cons_succ] at h1
          cases t with
          | zero =>
            rw [List.getElem?_cons_zero] at h1
            cases h1
            exact absurd h3.symm (hn z (List.mem_of_getElem? h2))
          | succ t =>
            rw [List.getElem?_cons_succ] at h1
            obtain ⟨g1, g2⟩ := h.1 t u y z (by omega) h1 h2 h3
            exact ⟨by omega, g2⟩
  · cases t with
    | zero =>
      rw [List.getElem?_cons_zero] at h1
      cases h1
      exact Or.inl ⟨x, rfl, rfl⟩
    | succ t =>
      rw [List.getElem?_cons_succ] at h1
      cases t with
      | zero =>
        rw [List.getElem?_cons_zero] at h1
        cases h1
        exact Or.inr ⟨0, x, rfl, rfl, rfl⟩
      | succ t =>
        rw [List.getElem?_cons_succ] at h1
        rcases h.2 t y h1 h2 with ⟨w, g1, g2⟩ | ⟨u, w, g1, g2, g3⟩
        · exact Or.inl ⟨w, by rw [List.getElem?_cons_succ, List.getElem?_cons_succ]; exact g1, g2⟩
        · exact Or.inr ⟨u + 2, w, by omega, by rw [List.getElem?_cons_succ, List.getElem?_cons_succ]; exact g2, g3⟩
-- the model's rows
def MR (f : Nat → Int32) (nt : Nat) (L : List Tr) : Prop := L.length = nt ∧ ∀ (t : Nat) (x : Tr), L[t]? = some x → mk f t 0 = x.1 ∧ mk f t 2 = x.2.1 ∧ mk f t 4 = x.2.2 ∧ mk f t 1 = -6 ∧ mk f t 3 = 0
theorem cpR_mk {k t c' : Nat} (h5 : c' < 5) : ∀ (m c : Nat) (f : Nat → Int32), c + m ≤ 5 → mk (cpR f k m c) t c' = if t = k + 1 ∧ c ≤ c' ∧ c' < c + m then mk f k c' else mk f t c'
  | 0, c, f, _ => by rw [cpR, if_neg (by omega)]
  | m + 1, c, f, h => by
    rw [cpR, cpR_mk h5 m (c + 1) _ (by omega), mk_sk (by omega) h5, mk_sk (by omega) h5, if_neg (show ¬ (k = k + 1 ∧ c' = c) by omega)]
    by_cases q : t = k + 1
    · by_cases q1 : c' = c
      · rw [if_neg (by omega), if_pos ⟨q, q1⟩, if_pos (by omega), q1]
      · rw [if_neg (show ¬ (t = k + 1 ∧ c' = c) by omega)]
        by_cases q2 : c + 1 ≤ c' ∧ c' < c + 1 + m
        · rw [if_pos ⟨q, q2⟩, if_pos (by omega)]
        · rw [if_neg (by omega), if_neg (by omega)]
    · rw [if_neg (fun z => q z.1), if_neg (fun z => q z.1), if_neg (fun z => q z.1)]
theorem shM_spec {e : Int32} : ∀ (k : Nat) (f : Nat → Int32), (∀ j c, c < 5 → j < (shM e k f).2 → mk (shM e k f).1 j c = mk f j c) ∧ (∀ j, (shM e k f).2 ≤ j → j < k → (∀ c, c < 5 → mk (shM e k f).1 (j + 1) c = mk f j c) ∧ ¬ e ≤ mk f j 2) ∧ (∀ j c, c < 5 → k < j → mk (shM e k f).1 j c = mk f j c) ∧ ((shM e k f).2 = 0 ∨ ∃ p, (shM e k f).2 = p + 1 ∧ e ≤ mk f p 2)
  | 0, f => ⟨fun _ _ _ _ => rfl, fun j _ h => absurd h (Nat.not_lt_zero _), fun _ _ _ _ => rfl, Or.inl rfl⟩
  | k + 1, f => by
    rw [shM]
    by_cases q : e ≤ mk f k 2
    · rw [if_pos q]
      exact ⟨fun _ _ _ _ => rfl, fun j h1 h2 => absurd h2 (Nat.not_lt.mpr h1), fun _ _ _ _ => rfl, Or.inr ⟨k, rfl, q⟩⟩
    · rw [if_neg q]
      obtain ⟨h1, h2, h3, h4⟩ := shM_spec (e := e) k (cpR f k 5 0)
      have hle := shM_le (e := e) k (cpR f k 5 0)
      have row : ∀ j c, c < 5 → j ≤ k → mk (cpR f k 5 0) j c = mk f j c := fun j c hc hj => by rw [cpR_mk hc 5 0 f (by omega), if_neg (by omega)]
      refine ⟨fun j c hc hj => by rw [h1 j c hc hj, row j c hc (by omega)], fun j hj1 hj2 => ?_, fun j c hc hj => by rw [h3 j c hc (by omega), cpR_mk hc 5 0 f (by omega), if_neg (by omega)], ?_⟩
      · by_cases qj : j = k
        · subst qj
          refine ⟨fun c hc => ?_, q⟩
          rw [h3 (j + 1) c hc (by omega), cpR_mk hc 5 0 f (by omega), if_pos (by omega)]
        · obtain ⟨g1, g2⟩ := h2 j hj1 (by omega)
          refine ⟨fun c hc => by rw [g1 c hc, row j c hc (by omega)], ?_⟩
          rw [row j 2 (by decide) (by omega)] at g2
          exact g2
      · rcases h4 with h4 | ⟨p, h4, h5⟩
        · exact Or.inl h4
        · refine Or.inr ⟨p, h4, ?_⟩
          rw [row p 2 (by decide) (by omega)] at h5
          exact h5
theorem srt_le {L : List Tr} (h : SrtD L) {i j : Nat} {x y : Tr} (hij : i ≤ j) (hx : L[i]? = some x) (hy : L[j]? = some y) : y.2.1 ≤ x.2.1 := by
  rcases Nat.lt_or_eq_of_le hij with q | q
  · obtain ⟨hi, hxi⟩ := List.getElem?_eq_some_iff.mp hx
    obtain ⟨hj, hyj⟩ := List.getElem?_eq_some_iff.mp hy
    have := List.pairwise_iff_getElem.mp h i j hi hj q
    rw [hxi, hyj] at this
    exact this
  · subst q
    rw [hx] at hy
    cases hy
    exact Int32.le_refl _
theorem addM_ok {f : Nat → Int32} {nt a : Nat} {e d : Int32} {L : List Tr} (h : MR f nt L) (hs : SrtD L) : MR (addM f nt a e d) (nt + 1) (insF (nI a, (e, d)) L) := by
  obtain ⟨hl, hr⟩ := h
  obtain ⟨s1, s2, s3, s4⟩ := shM_spec (e := e) nt f
  have hle := shM_le (e := e) nt f
  refine ⟨by rw [insF_len, hl], fun t x hx => ?_⟩
  generalize hp : (shM e nt f).2 = p at s1 s2 s3 s4 hle
  rw [insF_get L p t (by omega) (fun i y hi hy => by
      rcases s4 with q | ⟨p', q1, q2⟩
      · omega
      · obtain ⟨z, hz⟩ : ∃ z, L[p']? = some z := ⟨_, List.getElem?_eq_getElem (show p' < L.length by omega)⟩
        rw [(hr p' z hz).2.1] at q2
        exact Int32.le_trans q2 (srt_le hs (show i ≤ p' by omega) hy hz)) (fun i y hi hy => by
      have hi2 : i < nt := by rw [← hl]; exact (List.getElem?_eq_some_iff.mp hy).1
      have := (s2 i hi hi2).2
      rw [(hr i y hy).2.1] at this
      exact this)] at hx
  have hu : ∀ c, mk (addM f nt a e d) t c = mk (putT (shM e nt f).1 p a e d) t c := fun c => by rw [addM, mk_up (by decide), hp]
  rw [hu, hu, hu, hu, hu]
  unfold putT
  by_cases q1 : t < p
  · rw [if_pos q1] at hx
    simp (disch := omega) only [mk_sk_ne]
    rw [s1 t 0 (by decide) q1, s1 t 2 (by decide) q1, s1 t 4 (by decide) q1, s1 t 1 (by decide) q1, s1 t 3 (by decide) q1]
    exact hr t x hx
  · rw [if_neg q1] at hx
    by_cases q2 : t = p
    · rw [if_pos q2] at hx
      cases hx
      rw [q2]
      refine ⟨?_, ?_, ?_, ?_, ?_⟩ <;> simp (disch := omega) only [mk_sk_ne, mk_sk_at]
    · rw [if_neg q2] at hx
      have ht : t - 1 < nt := by rw [← hl]; exact (List.getElem?_eq_some_iff.mp hx).1
      have g := (s2 (t - 1) (by omega) ht).1
      rw [show t - 1 + 1 = t by omega] at g
      simp (disch := omega) only [mk_sk_ne]
      rw [g 0 (by decide), g 2 (by decide), g 4 (by decide), g 1 (by decide), g 3 (by decide)]
      exact hr (t - 1) x hx
def AR (S : HA) (f : Nat → Int32) : Prop := (∀ a c, a < sz S 1 → c < 5 → ma f a c = ce S 1 a c) ∧ f 0 = S.2 5 ∧ f 10 = ce S 4 0 2 ∧ f 11 = ce S 4 0 3
theorem ar_lo {S : HA} {f g : Nat → Int32} (h : AR S f) (hb : sz S 1 ≤ 6) (hg : ∀ j, j < 90 → j ≠ 3 → g j = f j) : AR S g :=
  ⟨fun a c ha hc => by unfold ma; rw [hg _ (by omega) (by omega)]; exact h.1 a c ha hc, by rw [hg _ (by decide) (by decide)]; exact h.2.1, by rw [hg _ (by decide) (by decide)]; exact h.2.2.1, by rw [hg _ (by decide) (by decide)]; exact h.2.2.2⟩
theorem deep_eq {S : HA} {f : Nat → Int32} (h : AR S f) (hb : sz S 1 ≤ 6) {a : Nat} (ha : a < sz S 1) : deepM f a = deepS S (nI a) := by
  rw [deepM, deepS, cl3 (by omega), show cl S 4 0 3 = ce S 4 0 3 from cl3 (r := 0) (by decide), h.1 a 3 ha (by decide), h.2.2.2]
theorem due_eq {S : HA} {f : Nat → Int32} (h : AR S f) (hV : VA S) (hb : sz S 1 ≤ 6) {a : Nat} (ha : a < sz S 1) : dueM f a = dueS S (nI a) := by
  obtain ⟨-, p, p1, p2, p3⟩ := hV.1 a ha
  rw [dueM, dueS, cl1 (by omega), h.1 a 1 ha (by decide), h.2.1, p3, if_neg (show ¬ nI p ≤ 0 from nI_ge (b := p) (a := 0) (by omega) (by omega))]
theorem pl1_ok {S : HA} {f : Nat → Int32} {nt a : Nat} {L : List Tr} (hA : AR S f) (hV : VA S) (hb : sz S 1 ≤ 6) (ha : a < sz S 1) (h : MR f nt L) (hs : SrtD L) : MR (pl1 f nt a).1 (pl1 f nt a).2 (insA (tkL S a) L) := by
  have e0 : ma f a 0 = cl S 1 (nI a) 0 := by rw [cl0 (by omega)]; exact hA.1 a 0 ha (by decide)
  have e4 : f 10 = cl S 4 0 2 := by rw [show cl S 4 0 2 = ce S 4 0 2 from cl2 (r := 0) (by decide)]; exact hA.2.2.1
  rw [pl1, deep_eq hA hb ha, due_eq hA hV hb ha]
  unfold tkL
  by_cases hd : deepS S (nI a) = 0
  · rw [if_pos hd, if_pos hd]
    by_cases hu : dueS S (nI a) = 0
    · rw [if_pos hu, if_pos hu]; exact h
    · rw [if_neg hu, if_neg hu]
      have ee : effS S (nI a) = ma f a 0 := by rw [effS, if_pos hd, if_neg hu, e0]
      rw [ee]
      exact addM_ok h hs
  · rw [if_neg hd, if_neg hd]
    have ee : effS S (nI a) = effM f a := by rw [effS, if_neg hd, effM, e0, e4]
    rw [ee]
    exact addM_ok (addM_ok h hs) (insF_srt _ hs)
theorem plA_ok {S : HA} (hV : VA S) (hb : sz S 1 ≤ 6) : ∀ (k a : Nat) (f : Nat → Int32) (nt : Nat), AR S f → a + k = sz S 1 → MR f nt (IL S (fun _ => false) a) → MR (plA k a f nt).1 (plA k a f nt).2 (IL S (fun _ => false) (sz S 1))
  | 0, a, f, nt, _, hk, h => by
    obtain rfl : a = sz S 1 := by omega
    exact h
  | k + 1, a, f, nt, hA, hk, h => by
    rw [plA]
    refine plA_ok hV hb k (a + 1) _ _ (ar_lo hA hb (fun j h1 h2 => pl1_lo h1 h2)) (by omega) ?_
    rw [IL, if_neg (by decide)]
    exact pl1_ok hA hV hb (by omega) h (IL_srt a)
-- the class's table
def SA (S S' : HA) : Prop := (∀ j, j ≠ 2 → S'.1 j = S.1 j) ∧ S'.2 = S.2
theorem sa_cl {S S' : HA} (h : SA S S') {j : Nat} (hj : j ≠ 2) (r c : Int32) : cl S' j r c = cl S j r c := by unfold cl; rw [h.1 j hj]
theorem sa_deep {S S' : HA} (h : SA S S') (a : Int32) : deepS S' a = deepS S a := by unfold deepS; rw [sa_cl h (by decide), sa_cl h (by decide)]
theorem sa_due {S S' : HA} (h : SA S S') (a : Int32) : dueS S' a = dueS S a := by
  unfold dueS
  rw [sa_cl h (by decide), h.2]
theorem sa_eff {S S' : HA} (h : SA S S') (a : Int32) : effS S' a = effS S a := by
  unfold effS
  rw [sa_deep h, sa_due h, sa_cl h (by decide), sa_cl h (by decide)]
theorem sa_next {S S' : HA} (h : SA S S') (f : Int32) : ∀ n, nextL S' f n = nextL S f n
  | 0 => rfl
  | n + 1 => by rw [nextL, nextL, sa_next h f n, sa_eff h]
theorem sa_sz {S S' : HA} (h : SA S S') {j : Nat} (hj : j ≠ 2) : sz S' j = sz S j := by unfold sz; rw [h.1 j hj]
def XR (S : HA) (L : List Tr) : Prop := sz S 2 = L.length ∧ ∀ (t : Nat) (x : Tr), L[t]? = some x → ce S 2 t 0 = x.1 ∧ ce S 2 t 2 = x.2.1 ∧ ce S 2 t 4 = x.2.2 ∧ ce S 2 t 3 = 0
def addTN (S : HA) (a e d : Int32) : HA := Wc (Wc (Wc (app S 2) 2 (sz S 2) 0 a) 2 (sz S 2) 2 e) 2 (sz S 2) 4 d
theorem addT_eq {S : HA} {a e d : Int32} (h : sz S 2 < 100) : addTS S a e d = addTN S a e (bitS d) := by
  have q : sz (app S 2) 2 = sz S 2 + 1 := by rw [sz_app, if_pos rfl]
  unfold addTS
  simp only
  rw [wc0 (by omega) (by decide) (by omega), wc2 (by rw [sz_W]; omega) (by decide) (by rw [sz_W]; omega), wc4 (by rw [sz_W, sz_W]; omega) (by decide) (by rw [sz_W, sz_W]; omega)]
  rfl
theorem addT_ok {S0 S : HA} {a e d : Int32} {L : List Tr} (hA : SA S0 S) (hX : XR S L) (hC : VC S) (hl : L.length < 100) : SA S0 (addTS S a e d) ∧ XR (addTS S a e d) (L ++ [(a, (e, bitS d))]) ∧ VC (addTS S a e d) := by
  obtain ⟨hs, hr⟩ := hX
  rw [addT_eq (by omega)]
  have q : sz (app S 2) 2 = sz S 2 + 1 := by rw [sz_app, if_pos rfl]
  refine ⟨⟨fun j hj => ?_, hA.2⟩, ⟨?_, fun t x hx => ?_⟩, ?_⟩
  · rw [← hA.1 j hj]
    show (if j = 2 then _ else if j = 2 then _ else if j = 2 then _ else if j = 2 then _ else S.1 j) = S.1 j
    rw [if_neg hj, if_neg hj, if_neg hj, if_neg hj]
  · rw [addTN, sz_W, sz_W, sz_W, q, List.length_append, List.length_singleton, hs]
  · unfold addTN
    rw [ce_W, ce_W, ce_W, ce_app, ce_W, ce_W, ce_W, ce_app, ce_W, ce_W, ce_W, ce_app, ce_W, ce_W, ce_W, ce_app]
    by_cases qt : t = sz S 2
    · rw [qt, hs, List.getElem?_append_right (Nat.le_refl _), Nat.sub_self] at hx
      cases hx
      rw [qt, hC 2 _ 3 (by decide) (Nat.le_refl _)]
      simp
    · have htl : t < L.length := by
        have := (List.getElem?_eq_some_iff.mp hx).1
        rw [List.length_append, List.length_singleton] at this
        omega
      rw [List.getElem?_append_left htl] at hx
      simp only [qt, false_and, if_false]
      exact hr t x hx
  · exact vc_W (vc_W (vc_W (vc_app hC) (by omega)) (by rw [sz_W]; omega)) (by rw [sz_W, sz_W]; omega)
def cU (F : Nat → Bool) : Nat → Nat
  | 0 => 0
  | n + 1 => cU F n + (if F n = true then 0 else 1)
theorem cU_congr {F F' : Nat → Bool} : ∀ n, (∀ i, i < n → F i = F' i) → cU F n = cU F' n
  | 0, _ => rfl
  | n + 1, h => by rw [cU, cU, h n (by omega), cU_congr n (fun i hi => h i (by omega))]
theorem cU_add {F : Nat → Bool} {a : Nat} (hF : F a = false) : ∀ n, a < n → cU (addF F a) n + 1 = cU F n
  | 0, h => absurd h (Nat.not_lt_zero _)
  | n + 1, h => by
    rw [cU, cU]
    by_cases q : a = n
    · subst q
      rw [cU_congr a (F := addF F a) (F' := F) (fun i hi => by unfold addF; simp; omega), hF]
      have : addF F a a = true := by unfold addF; simp
      rw [this]
      rfl
    · have := cU_add hF n (by omega)
      have e : addF F a n = F n := by unfold addF; simp; omega
      rw [e]
      omega
theorem cU_zero {S : HA} {F : Nat → Bool} : ∀ n, cU F n = 0 → IL S F n = []
  | 0, _ => rfl
  | n + 1, h => by
    rw [cU] at h
    by_cases q : F n = true
    · rw [IL, if_pos q]
      exact cU_zero n (by omega)
    · rw [if_neg q] at h; omega
theorem mask_ok : ∀ m, m < 64 → ∀ a, a < 6 → (∃ m', m' < 64 ∧ (nI m ||| 1 <<< (nI a &&& 31)) = nI m') ∧ ∀ i, i < 6 → bitF (nI m ||| 1 <<< (nI a &&& 31)) i = addF (bitF (nI m)) a i := by
  have h1 : ∀ m, m < 64 → ∀ a, a < 6 → ((nI m ||| 1 <<< (nI a &&& 31)) = nI (m ||| 2 ^ a)) ∧ (m ||| 2 ^ a) < 64 := by decide +kernel
  have h2 : ∀ m, m < 64 → ∀ a, a < 6 → ∀ i, i < 6 → bitF (nI m ||| 1 <<< (nI a &&& 31)) i = addF (bitF (nI m)) a i := by decide +kernel
  exact fun m hm a ha => ⟨⟨_, (h1 m hm a ha).2, (h1 m hm a ha).1⟩, h2 m hm a ha⟩
theorem deep_bit {S : HA} (a : Int32) : deepS S a = 0 ∨ deepS S a = 1 := by
  unfold deepS
  split
  · exact Or.inl rfl
  · exact Or.inr rfl
theorem mkS_ok {S0 : HA} (hV : VA S0) (hb : sz S0 1 ≤ 6) : ∀ (k : Nat) (S : HA) (m : Nat) (L : List Tr), m < 64 → SA S0 S → XR S L → VC S → L.length + 2 * k ≤ 20 → cU (bitF (nI m)) (sz S0 1) ≤ k →
    SA S0 (mkS k S (nI m)) ∧ XR (mkS k S (nI m)) (L ++ IL S0 (bitF (nI m)) (sz S0 1)) ∧ VC (mkS k S (nI m)) ∧ TWL (IL S0 (bitF (nI m)) (sz S0 1))
  | 0, S, m, L, hm, hA, hX, hC, hl, hk => by
    rw [cU_zero _ (by omega), List.append_nil]
    exact ⟨hA, hX, hC, twl_nil⟩
  | k + 1, S, m, L, hm, hA, hX, hC, hl, hk => by
    have en : nextS S (nI m) = (nextL S0 (nI m) (sz S0 1)).1 := by rw [nextS, sa_next hA, sa_sz hA (by decide)]
    rw [mkS, en]
    rcases next_ok hV hb (nI m) _ (Nat.le_refl _) with ⟨h1, h2, h3⟩ | ⟨a, h1, h2, h3, h4, h5, h6, h7⟩
    · rw [if_pos h1, h3, List.append_nil]
      exact ⟨hA, hX, hC, twl_nil⟩
    · rw [h3, if_neg (fun z => absurd (show nI a < 0 by rw [z]; decide) (nI_pos (by omega)))]
      obtain ⟨⟨m', g1, g2⟩, g3⟩ := mask_ok m hm a (by omega)
      have hco : ∀ i, i < sz S0 1 → bitF (nI m') i = addF (bitF (nI m)) a i := fun i hi => by rw [← g2]; exact g3 i (by omega)
      have hcu := cU_add h2 (sz S0 1) h1
      have hcu2 : cU (bitF (nI m')) (sz S0 1) ≤ k := by rw [cU_congr _ hco]; omega
      have hIL : IL S0 (bitF (nI m')) (sz S0 1) = IL S0 (addF (bitF (nI m)) a) (sz S0 1) := IL_congr _ hco
      simp only
      rw [g2, sa_eff hA, sa_deep hA, h5, ← hIL]
      have areas : ∀ z ∈ IL S0 (bitF (nI m')) (sz S0 1), z.1 ≠ nI a := by
        intro z hz e
        obtain ⟨a', k1, k2, k3⟩ := IL_mem _ hz
        rw [(tk_mem k3).1] at e
        have := (nI_eq (by omega) (by omega)).mp e
        subst this
        rw [hco _ k1] at k2
        unfold addF at k2
        simp at k2
      have hdl : dueS S0 (nI a) = 0 → deepS S0 (nI a) = 0 → False := by
        intro z1 z2
        apply h7
        rw [effS, if_pos z2, if_pos z1]
        exact Int32.le_refl _
      by_cases hd : deepS S0 (nI a) = 0
      · have tk : tkL S0 a = [(nI a, (effS S0 (nI a), 0))] := by
          unfold tkL
          rw [if_pos hd, if_neg (fun z => hdl z hd)]
        rw [if_pos hd, tk]
        obtain ⟨q1, q2, q3⟩ := addT_ok (a := nI a) (e := effS S0 (nI a)) (d := deepS S0 (nI a)) hA hX hC (by omega)
        have ih := mkS_ok hV hb k _ m' _ g1 q1 q2 q3 (by rw [List.length_append, List.length_singleton]; omega) hcu2
        rw [hd] at ih ⊢
        refine ⟨ih.1, ?_, ih.2.2.1, twl_1 ih.2.2.2 areas (show ¬ (0 : Int32) = 1 by decide)⟩
        have := ih.2.1
        rw [List.append_assoc] at this
        exact this
      · have hd1 := (deep_bit (S := S0) (nI a)).resolve_left hd
        have tk : tkL S0 a = [(nI a, (effS S0 (nI a), 1)), (nI a, (effS S0 (nI a), 1))] := by
          unfold tkL
          rw [if_neg hd]
        rw [if_neg hd, tk]
        obtain ⟨q1, q2, q3⟩ := addT_ok (a := nI a) (e := effS S0 (nI a)) (d := deepS S0 (nI a)) hA hX hC (by omega)
        obtain ⟨p1, p2, p3⟩ := addT_ok (a := nI a) (e := effS S0 (nI a)) (d := deepS S0 (nI a)) q1 q2 q3 (by rw [List.length_append, List.length_singleton]; omega)
        have ih := mkS_ok hV hb k _ m' _ g1 p1 p2 p3 (by rw [List.length_append, List.length_append, List.length_singleton]; omega) hcu2
        rw [hd1] at ih ⊢
        refine ⟨ih.1, ?_, ih.2.2.1, twl_2 ih.2.2.2 areas rfl⟩
        have := ih.2.1
        rw [List.append_assoc, List.append_assoc] at this
        exact this
