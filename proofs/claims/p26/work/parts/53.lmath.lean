/-! WHAT EACH METHOD OF THE LAW STANDS ON: the house's own table of ints, up(), the invariant between two acts -/
def fS (S : HA) : Nat → Int32 := fun i =>
  if i < 12 then (if i = 0 then S.2 5 else if i = 1 then nI (sz S 0) else if i = 2 then nI (sz S 1) else if i = 3 then nI (sz S 2) else if i = 4 then S.2 6 else if i = 5 then S.2 7 else if i = 6 then S.2 8 else if i = 7 then nI (sz S 3) else ce S 4 0 (i - 8))
  else if i < 60 then (if (i - 12) % 6 = 0 then ce S 0 ((i - 12) / 6) 0 else if (i - 12) % 6 = 1 then ce S 0 ((i - 12) / 6) 3 else if (i - 12) % 6 = 2 then ce S 0 ((i - 12) / 6) 4 else if (i - 12) % 6 = 3 then ce S 0 ((i - 12) / 6) 5 else if (i - 12) % 6 = 4 then ce S 0 ((i - 12) / 6) 1 else ce S 0 ((i - 12) / 6) 2)
  else if i < 90 then ce S 1 ((i - 60) / 5) ((i - 60) % 5)
  else if i < 150 then ce S 2 ((i - 90) / 5) ((i - 90) % 5)
  else ce S 3 ((i - 150) / 2) ((i - 150) % 2)
theorem fS_o {S : HA} {r c : Nat} (hr : r < 8) (hc : c < 6) : mo (fS S) r c = if c = 0 then ce S 0 r 0 else if c = 1 then ce S 0 r 3 else if c = 2 then ce S 0 r 4 else if c = 3 then ce S 0 r 5 else if c = 4 then ce S 0 r 1 else ce S 0 r 2 := by
  unfold mo fS
  rw [if_neg (show ¬ 12 + 6 * r + c < 12 by omega), if_pos (show 12 + 6 * r + c < 60 by omega), show (12 + 6 * r + c - 12) % 6 = c by omega, show (12 + 6 * r + c - 12) / 6 = r by omega]
theorem fS_a {S : HA} {a c : Nat} (ha : a < 6) (hc : c < 5) : ma (fS S) a c = ce S 1 a c := by
  unfold ma fS
  rw [if_neg (show ¬ 60 + 5 * a + c < 12 by omega), if_neg (show ¬ 60 + 5 * a + c < 60 by omega), if_pos (show 60 + 5 * a + c < 90 by omega), show (60 + 5 * a + c - 60) % 5 = c by omega, show (60 + 5 * a + c - 60) / 5 = a by omega]
theorem fS_k {S : HA} {t c : Nat} (ht : t < 12) (hc : c < 5) : mk (fS S) t c = ce S 2 t c := by
  unfold mk fS
  rw [if_neg (show ¬ 90 + 5 * t + c < 12 by omega), if_neg (show ¬ 90 + 5 * t + c < 60 by omega), if_neg (show ¬ 90 + 5 * t + c < 90 by omega), if_pos (show 90 + 5 * t + c < 150 by omega), show (90 + 5 * t + c - 90) % 5 = c by omega, show (90 + 5 * t + c - 90) / 5 = t by omega]
theorem fS_w {S : HA} {s c : Nat} (hc : c < 2) : mw (fS S) s c = ce S 3 s c := by
  unfold mw fS
  rw [if_neg (show ¬ 150 + 2 * s + c < 12 by omega), if_neg (show ¬ 150 + 2 * s + c < 60 by omega), if_neg (show ¬ 150 + 2 * s + c < 90 by omega), if_neg (show ¬ 150 + 2 * s + c < 150 by omega), show (150 + 2 * s + c - 150) % 2 = c by omega, show (150 + 2 * s + c - 150) / 2 = s by omega]
theorem ed_fS {S : HA} (hB : EB S) : ED S (fS S) := by
  obtain ⟨b0, b1, b2, b3⟩ := id hB
  refine ⟨hB, ⟨rfl, rfl, rfl, rfl⟩, ⟨rfl, rfl, rfl, rfl⟩, fun j hj => ?_, fun r hr => ?_, fun a c ha hc => fS_a (by omega) hc, fun t c ht hc => fS_k (by omega) hc, fun s c hs hc => fS_w hc⟩
  · rcases (show j = 0 ∨ j = 1 ∨ j = 2 ∨ j = 3 by omega) with rfl | rfl | rfl | rfl <;> rfl
  · rw [fS_o (c := 0) (by omega) (by decide), fS_o (c := 1) (by omega) (by decide), fS_o (c := 2) (by omega) (by decide), fS_o (c := 3) (by omega) (by decide), fS_o (c := 4) (by omega) (by decide), fS_o (c := 5) (by omega) (by decide)]
    exact ⟨rfl, rfl, rfl, rfl, fun w _ => rfl⟩
-- between two acts
def J (k : Nat) (X : XS) : Prop := V X.1 (720 * k) ∧ (1 ≤ sz X.1 0 ∧ 1 ≤ sz X.1 1) ∧ (∃ w, w ≤ k ∧ X.1.2 5 = nI w) ∧ X.2.1.length ≤ 6
theorem keep6 {Hs : List HA} {S : HA} (h : Hs.length ≤ 6) : (keepL Hs S).length = if Hs.length < 6 then Hs.length + 1 else 6 := by
  unfold keepL
  rw [List.length_append, List.length_singleton]
  by_cases q : Hs.length < 6
  · rw [if_pos q, if_pos q]
  · rw [if_neg q, if_neg q, List.length_tail]
    omega
theorem keep6' {Hs : List HA} {S : HA} (h : Hs.length ≤ 6) : (keepL Hs S).length ≤ 6 := by
  rw [keep6 h]
  split <;> omega
theorem J.up {k : Nat} {X : XS} (h : J k X) : J (k + 1) X := by
  obtain ⟨h1, h2, ⟨w, h3, h4⟩, h5⟩ := h
  exact ⟨h1.le (by omega), h2, ⟨w, by omega, h4⟩, h5⟩
theorem J.of {k : Nat} {S S' : HA} {Hs : List HA} {P : PV} (h : J k (S, (Hs, P))) (hV : V S' (720 * k + 720)) (h0 : sz S' 0 = sz S 0) (h1 : sz S' 1 = sz S 1) (h5 : S'.2 5 = S.2 5) : J (k + 1) (S', (keepL Hs S, P)) := by
  obtain ⟨-, h2, ⟨w, h3, h4⟩, h6⟩ := h
  refine ⟨hV.le (by omega), ⟨by rw [show sz ((S', (keepL Hs S, P)) : XS).1 0 = sz S 0 from h0]; exact h2.1, by rw [show sz ((S', (keepL Hs S, P)) : XS).1 1 = sz S 1 from h1]; exact h2.2⟩, ⟨w, by omega, h5.trans h4⟩, keep6' h6⟩
-- up()
theorem c_L_up (l : Launch) {σ : Sg} {x m v : Int32} (hm : ¬ m = 0) (h : remS (x &&& 2147483647) m = v) : Con l 1 yL_up cL_up 2 (some .int) [vI x, vI m] σ (pureP v σ) := by
  refine con_of (by decide +kernel) (Nat.le_of_ble_eq_true rfl) (fun hPK hok => ?_)
  show G l (Rm 1) RL cL_up 2 (some .int) _ 0 [some (vI x), some (vI m)] [] σ
  refine g_iload_n (i := 0) (by decide +kernel) rfl ?_
  refine g_ldc ki_RL_8 (by decide +kernel) ?_
  refine g_iand (by decide +kernel) ?_
  refine g_iload_n (i := 1) (by decide +kernel) rfl ?_
  refine g_remS (by decide +kernel) hm ?_
  exact g_iret (by decide +kernel) ⟨by rw [h], rfl⟩
theorem k_up (l : Launch) {x m v : Int32} (hm : ¬ m = 0) (h : remS (x &&& 2147483647) m = v) : ∀ σ, Con l 1 yL_up cL_up 2 (some .int) [vI x, vI m] σ (pureP v σ) := fun _ => c_L_up l hm h
theorem upV (x : Int32) (m : Nat) (h0 : 0 < m) (h1 : m < 2 ^ 31) : ∃ i, i < m ∧ remS (x &&& 2147483647) (nI m) = nI i ∧ ¬ nI m = 0 := by
  obtain ⟨j, hj, e⟩ := pk_andE x (m := 2147483647) 31 (by decide)
  refine ⟨j % m, Nat.mod_lt _ h0, ?_, fun z => absurd ((nI_eq h1 (b := 0) (by decide)).mp z) (by omega)⟩
  rw [e, remS]
  exact pk_rem hj h0 h1
theorem bit01 {x : Int32} (h : x = 0 ∨ x = 1) : bitS x = x := by
  rcases h with q | q <;> rw [q] <;> rfl
theorem bit_or (x : Int32) : bitS x = 0 ∨ bitS x = 1 := by
  rw [bitS]
  split
  · exact Or.inl rfl
  · exact Or.inr rfl
-- open tasks, counted
theorem cnt_y {S : HA} {i : Nat} (hs : sz S 2 < 2 ^ 31) (h : i < sz S 2) (h0 : ce S 2 i 3 = 0) : cntL S (i + 1) = cntL S i + 1 := by
  rw [cntL, open_n hs h, if_pos h0]
  rfl
theorem cnt_n {S : HA} {i : Nat} (hs : sz S 2 < 2 ^ 31) (h : i < sz S 2) (h0 : ¬ ce S 2 i 3 = 0) : cntL S (i + 1) = cntL S i + 0 := by
  rw [cntL, open_n hs h, if_neg h0]
  rfl
theorem cnt_s {S : HA} {i : Nat} (hs : sz S 2 < 2 ^ 31) (h : i < sz S 2) : cntL S (i + 1) = cntL S i + (if ce S 2 i 3 = 0 then 1 else 0) := by
  by_cases q : ce S 2 i 3 = 0
  · rw [cnt_y hs h q, if_pos q]
  · rw [cnt_n hs h q, if_neg q]
theorem cnt_eq {S S' : HA} (hs : sz S 2 < 2 ^ 31) (hs' : sz S' 2 = sz S 2) : ∀ n, n ≤ sz S 2 → (∀ u, u < n → ce S' 2 u 3 = ce S 2 u 3) → cntL S' n = cntL S n
  | 0, _, _ => rfl
  | n + 1, hn, h => by
    rw [cnt_s hs (by omega), cnt_s (by rw [hs']; exact hs) (by rw [hs']; omega), cnt_eq hs hs' n (by omega) (fun u hu => h u (by omega)), h n (by omega)]
theorem cnt_one {S S' : HA} {t : Nat} (hs : sz S 2 < 2 ^ 31) (hs' : sz S' 2 = sz S 2) (ho : ce S 2 t 3 = 0) (hd : ¬ ce S' 2 t 3 = 0) : ∀ n, t < n → n ≤ sz S 2 → (∀ u, u < n → u ≠ t → ce S' 2 u 3 = ce S 2 u 3) → cntL S n = cntL S' n + 1
  | 0, h, _, _ => absurd h (Nat.not_lt_zero _)
  | n + 1, h, hn, hu => by
    rw [cnt_s hs (show n < sz S 2 by omega), cnt_s (S := S') (by rw [hs']; exact hs) (show n < sz S' 2 by rw [hs']; omega)]
    by_cases q : t = n
    · subst q
      rw [if_pos ho, if_neg hd, cnt_eq hs hs' t (by omega) (fun u h1 => hu u (by omega) (by omega)), Int32.add_zero]
    · rw [cnt_one hs hs' ho hd n (by omega) (by omega) (fun u h1 h2 => hu u (by omega) h2), hu n (by omega) (fun z => q z.symm), Int32.add_assoc, Int32.add_assoc, Int32.add_comm 1]
theorem open_0 {S : HA} (h : HInv S) (h1 : ¬ bitS (S.2 6) = 1) : nI (sz S 2) = 0 := by
  rcases h.1 with q | q
  · rw [h.2 q]; rfl
  · exact absurd (by rw [q]; decide) h1
-- done()
theorem x_done1 {S : HA} {Hs : List HA} {P : PV} {t : Nat} (hB : EB S) (ht : t < sz S 2) (ho : ce S 2 t 3 = 0) : xdone S Hs P (nI t) = (ce S 2 t 2, (finS S (nI t), (keepL Hs S, P))) := by
  have hb := eb31 hB
  rw [xdone, if_pos (has_lt ht (by omega)), open_n (by omega) ht, if_pos ho, if_pos (by decide), cl2 (by omega)]
  rfl
theorem x_done2 {S : HA} {Hs : List HA} {P : PV} {t : Nat} (hB : EB S) (ht : t < sz S 2) (ho : ¬ ce S 2 t 3 = 0) : xdone S Hs P (nI t) = (-5, (S, (Hs, P))) := by
  have hb := eb31 hB
  rw [xdone, if_pos (has_lt ht (by omega)), open_n (by omega) ht, if_neg ho, if_neg (by decide)]
def lastD (S : HA) (t : Nat) (a : Int32) : Nat → Int32
  | 0 => 1
  | k + 1 => if k = t then lastD S t a k else if ¬ ce S 2 k 0 = a then lastD S t a k else if ce S 2 k 3 = 1 then lastD S t a k else 0
theorem ld01 {S : HA} {t : Nat} {a : Int32} : ∀ n, lastD S t a n = 0 ∨ lastD S t a n = 1
  | 0 => Or.inr rfl
  | n + 1 => by
    have := ld01 (S := S) (t := t) (a := a) n
    rw [lastD]
    split
    · exact this
    · split
      · exact this
      · split
        · exact this
        · exact Or.inl rfl
theorem ld_iff {S : HA} {t : Nat} {a : Int32} : ∀ n, lastD S t a n = 0 ↔ ∃ u, u < n ∧ u ≠ t ∧ ce S 2 u 0 = a ∧ ¬ ce S 2 u 3 = 1
  | 0 => ⟨fun h => absurd h (show ¬ (1 : Int32) = 0 by decide), fun ⟨u, h, _⟩ => absurd h (Nat.not_lt_zero _)⟩
  | n + 1 => by
    have ih := ld_iff (S := S) (t := t) (a := a) n
    have up : (∃ u, u < n ∧ u ≠ t ∧ ce S 2 u 0 = a ∧ ¬ ce S 2 u 3 = 1) → ∃ u, u < n + 1 ∧ u ≠ t ∧ ce S 2 u 0 = a ∧ ¬ ce S 2 u 3 = 1 := fun ⟨u, h, r⟩ => ⟨u, by omega, r⟩
    have dn : (¬ (n ≠ t ∧ ce S 2 n 0 = a ∧ ¬ ce S 2 n 3 = 1)) → (∃ u, u < n + 1 ∧ u ≠ t ∧ ce S 2 u 0 = a ∧ ¬ ce S 2 u 3 = 1) → ∃ u, u < n ∧ u ≠ t ∧ ce S 2 u 0 = a ∧ ¬ ce S 2 u 3 = 1 := fun hx ⟨u, h, r⟩ => by
      by_cases q : u = n
      · subst q; exact absurd r hx
      · exact ⟨u, by omega, r⟩
    rw [lastD]
    by_cases q1 : n = t
    · rw [if_pos q1, ih]; exact ⟨up, dn (fun z => z.1 q1)⟩
    · rw [if_neg q1]
      by_cases q2 : ce S 2 n 0 = a
      · rw [if_neg (not_not_intro q2)]
        by_cases q3 : ce S 2 n 3 = 1
        · rw [if_pos q3, ih]; exact ⟨up, dn (fun z => z.2.2 q3)⟩
        · rw [if_neg q3]; exact ⟨fun _ => ⟨n, by omega, q1, q2, q3⟩, fun _ => rfl⟩
      · rw [if_pos q2, ih]; exact ⟨up, dn (fun z => q2 z.2.1)⟩
theorem and1 {x : Int32} (h : x = 0 ∨ x = 1) : x = x &&& 1 := by
  rcases h with q | q <;> rw [q] <;> rfl
theorem and0 {x : Int32} (h : x = 0 ∨ x = 1) : (0 : Int32) = x &&& 0 := by
  rcases h with q | q <;> rw [q] <;> rfl
theorem ld_t {S : HA} {t i : Nat} {a : Int32} (hi : i < 2 ^ 31) (ht : t < 2 ^ 31) (h : nI i = nI t) : lastD S t a (i + 1) = lastD S t a i &&& 1 := by
  rw [lastD, if_pos ((nI_eq hi ht).mp h)]; exact and1 (ld01 i)
theorem ld_a {S : HA} {t i : Nat} {a : Int32} (hi : i < 2 ^ 31) (ht : t < 2 ^ 31) (h : ¬ nI i = nI t) (h2 : ¬ ce S 2 i 0 = a) : lastD S t a (i + 1) = lastD S t a i &&& 1 := by
  rw [lastD, if_neg (fun z => h (by rw [z])), if_pos h2]; exact and1 (ld01 i)
theorem ld_d {S : HA} {t i : Nat} {a : Int32} (hi : i < 2 ^ 31) (ht : t < 2 ^ 31) (h : ¬ nI i = nI t) (h2 : ce S 2 i 0 = a) (h3 : ce S 2 i 3 = 1) : lastD S t a (i + 1) = lastD S t a i &&& 1 := by
  rw [lastD, if_neg (fun z => h (by rw [z])), if_neg (not_not_intro h2), if_pos h3]; exact and1 (ld01 i)
theorem ld_0 {S : HA} {t i : Nat} {a : Int32} (hi : i < 2 ^ 31) (ht : t < 2 ^ 31) (h : ¬ nI i = nI t) (h2 : ce S 2 i 0 = a) (h3 : ¬ ce S 2 i 3 = 1) : lastD S t a (i + 1) = lastD S t a i &&& 0 := by
  rw [lastD, if_neg (fun z => h (by rw [z])), if_neg (not_not_intro h2), if_neg h3]; exact and0 (ld01 i)
theorem twin_iff {S : HA} {n t : Nat} (h : VB S n) (ht : t < sz S 2) : ¬ twinOpenS S (nI t) = 0 ↔ ∃ u, u < sz S 2 ∧ u ≠ t ∧ ce S 2 u 0 = ce S 2 t 0 ∧ ¬ ce S 2 u 3 = 1 := by
  have hB := h.1.2.1
  have h12 := hB.2.2.1
  rw [← twin_last (ed_fS hB) h.2.2.2.2.1 h.2.2.2.1 ht, last_iff (by omega) _ (by omega)]
  constructor
  · rintro ⟨u, h1, h2, h3, h4⟩
    rw [fS_k (by omega) (by decide), fS_k (by omega) (by decide)] at h3
    rw [fS_k (by omega) (by decide)] at h4
    exact ⟨u, h1, h2, h3, h4⟩
  · rintro ⟨u, h1, h2, h3, h4⟩
    refine ⟨u, h1, h2, ?_, ?_⟩
    · rw [fS_k (by omega) (by decide), fS_k (by omega) (by decide)]; exact h3
    · rw [fS_k (by omega) (by decide)]; exact h4
set_option maxHeartbeats 1000000 in
theorem fin_facts {S : HA} {n t r a : Nat} (hV : V S n) (ht : t < sz S 2) (ho : ce S 2 t 3 = 0) (hr : r < sz S 0) (ha : a < sz S 1) (hw : ce S 2 t 1 = nI r) (har : ce S 2 t 0 = nI a) :
    V (finS S (nI t)) n ∧ (∀ j, j ≠ 3 → sz (finS S (nI t)) j = sz S j) ∧ (∀ u c, ce (finS S (nI t)) 2 u c = if u = t ∧ c = 3 then 1 else ce S 2 u c) ∧ (finS S (nI t)).2 = (setF S 7 (S.2 7 + 1)).2 ∧
    ce (finS S (nI t)) 0 r 3 = ce S 0 r 3 + ce S 2 t 2 ∧ loadS (finS S (nI t)) (nI r) = loadS S (nI r) ∧ ce (finS S (nI t)) 1 a 3 = (if lastD S t (nI a) (sz S 2) = 0 then ce S 1 a 3 else 0) ∧ ce (finS S (nI t)) 1 a 4 = ce S 1 a 4 + lastD S t (nI a) (sz S 2) ∧
    (∀ s, s < sz (finS S (nI t)) 3 → ce (finS S (nI t)) 3 s 0 ≠ nI t ∧ ce (finS S (nI t)) 3 s 1 ≠ nI t) ∧ cntL S (sz S 2) = cntL (finS S (nI t)) (sz S 2) + 1 := by
  have hB := hV.1.2.1
  obtain ⟨b0, b1, b2, b3⟩ := id hB
  obtain ⟨-, -, -, -, -, -, -, f1, -, f2, f3, f4⟩ := fin_ok (ed_fS hB) hV ht ho
  have heq := fin_eq hB ht hr ha hw har
  have VF := vb_fin3 hV.b ht ho hr hw
  have sF : ∀ j, sz (fin3 S t r) j = sz S j := fun j => by rw [fin3, sz_W, sz_W, sz_W]
  have cF : ∀ u c, ce (fin3 S t r) 2 u c = if u = t ∧ c = 3 then 1 else ce S 2 u c := fun u c => by rw [fin3, ce_W_ne (by decide), ce_W_ne (by decide), ce_W]
  have tw : ¬ twinOpenS (fin3 S t r) (nI t) = 0 ↔ lastD S t (nI a) (sz S 2) = 0 := by
    rw [twin_iff VF (by rw [sF]; exact ht), ld_iff, sF]
    constructor
    · rintro ⟨u, h1, h2, h3, h4⟩
      rw [cF, cF, if_neg (fun z => absurd z.2 (by decide)), if_neg (fun z => absurd z.2 (by decide)), har] at h3
      rw [cF, if_neg (fun z => h2 z.1)] at h4
      exact ⟨u, h1, h2, h3, h4⟩
    · rintro ⟨u, h1, h2, h3, h4⟩
      refine ⟨u, h1, h2, ?_, ?_⟩
      · rw [cF, cF, if_neg (fun z => absurd z.2 (by decide)), if_neg (fun z => absurd z.2 (by decide)), har]; exact h3
      · rw [cF, if_neg (fun z => h2 z.1)]; exact h4
  have d0 : ∀ x c, ce (finS S (nI t)) 0 x c = ce (fin3 S t r) 0 x c := fun x c => by
    rw [heq, ce_F, dropS, ce_T_ne (by decide), finY]
    split
    · rfl
    · rw [clN, ce_W_ne (by decide), ce_W_ne (by decide)]
  have w3 : ce (fin3 S t r) 0 r 3 = ce S 0 r 3 + ce S 2 t 2 := by rw [fin3, ce_W_at]
  have w6 : ce (fin3 S t r) 0 r 6 = ce S 0 r 6 + -(ce S 2 t 2) := by rw [fin3, ce_W_c (by decide), ce_W_at]
  have e1 : ∀ c, ce (finS S (nI t)) 1 a c = ce (finY S t r a) 1 a c := fun c => by rw [heq, ce_F, dropS, ce_T_ne (by decide)]
  have f1c : ∀ c, ce (fin3 S t r) 1 a c = ce S 1 a c := fun c => by rw [fin3, ce_W_ne (by decide), ce_W_ne (by decide), ce_W_ne (by decide)]
  refine ⟨f1, f2, f3, f4, (d0 r 3).trans w3, ?_, ?_, ?_, ?_, ?_⟩
  · rw [loadS, loadS, cl3 (by omega), cl6 (by omega), cl3 (by omega), cl6 (by omega), d0, d0, w3, w6, Int32.add_assoc, ← Int32.add_assoc (ce S 2 t 2), Int32.add_comm (ce S 2 t 2), Int32.add_assoc, Int32.add_right_neg, Int32.add_zero]
  · rw [e1, finY]
    by_cases q : lastD S t (nI a) (sz S 2) = 0
    · rw [if_pos (tw.mpr q), if_pos q, f1c]
    · rw [if_neg (fun z => q (tw.mp z)), if_neg q, clN, ce_W_c (by decide), ce_W_at]
  · rw [e1, finY]
    by_cases q : lastD S t (nI a) (sz S 2) = 0
    · rw [if_pos (tw.mpr q), q, f1c, Int32.add_zero]
    · rw [if_neg (fun z => q (tw.mp z)), clN, ce_W_at, f1c, (ld01 _).resolve_left q]
  · intro s hs
    have VY : VB (finY S t r a) n := by
      unfold finY
      split
      · exact VF
      · exact vb_clean VF (by rw [sF]; exact ha)
    rw [heq, sz_F] at hs
    have := ((dr_all (t := t) VY).2.2 s hs).1
    rw [heq, ce_F, ce_F]
    exact this
  · exact cnt_one (by omega) (f2 2 (by decide)) ho (by rw [f3, if_pos ⟨rfl, rfl⟩]; decide) _ ht (Nat.le_refl _) (fun u _ hu => by rw [f3, if_neg (fun z => hu z.1)])
theorem isIn_yes {n a b : Nat} (hb : b < 2 ^ 31) (h1 : a ≤ n) (h2 : n ≤ b) : isInS (nI n) (nI a) (nI b) = 1 := by
  rw [isInS, if_neg (fun z => absurd ((nI_ltI (by omega) (by omega)).mp z) (by omega)), if_neg (fun z => absurd ((nI_ltI (by omega) (by omega)).mp z) (by omega))]
