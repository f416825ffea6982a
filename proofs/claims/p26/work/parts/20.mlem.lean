/-! THE MODEL'S ROW: what a write leaves as it was -/
section MLEM
variable {f : Nat → Int32} {v : Int32}
theorem so_lo {r c k : Nat} (h : k < 12) : so f r c v k = f k := up_ne (by omega)
theorem sA_lo {a c k : Nat} (h : k < 60) : sA f a c v k = f k := up_ne (by omega)
theorem sk_lo {t c k : Nat} (h : k < 90) : sk f t c v k = f k := up_ne (by omega)
theorem so_hi {r c k : Nat} (h : 12 + 6 * r + c < k) : so f r c v k = f k := up_ne (by omega)
theorem sA_hi {a c k : Nat} (h : 60 + 5 * a + c < k) : sA f a c v k = f k := up_ne (by omega)
theorem sk_hi {t c k : Nat} (h : 90 + 5 * t + c < k) : sk f t c v k = f k := up_ne (by omega)
theorem mo_so_at {r c : Nat} : mo (so f r c v) r c = v := if_pos rfl
theorem mo_so_ne {r c r' c' : Nat} (hc : c < 6) (hc' : c' < 6) (h : ¬ (r' = r ∧ c' = c)) : mo (so f r c v) r' c' = mo f r' c' := up_ne (by omega)
theorem mo_so {r c r' c' : Nat} (hc : c < 6) (hc' : c' < 6) : mo (so f r c v) r' c' = if r' = r ∧ c' = c then v else mo f r' c' := by
  by_cases h : r' = r ∧ c' = c
  · rw [if_pos h, h.1, h.2, mo_so_at]
  · rw [if_neg h, mo_so_ne hc hc' h]
theorem mo_sA {a c r c' : Nat} (hr : r < 8) (hc' : c' < 6) : mo (sA f a c v) r c' = mo f r c' := up_ne (by omega)
theorem mo_sk {t c r c' : Nat} (hr : r < 8) (hc' : c' < 6) : mo (sk f t c v) r c' = mo f r c' := up_ne (by omega)
theorem ma_so {r c a c' : Nat} (hr : r < 8) (hc : c < 6) : ma (so f r c v) a c' = ma f a c' := up_ne (by omega)
theorem ma_sA_at {a c : Nat} : ma (sA f a c v) a c = v := if_pos rfl
theorem ma_sA_ne {a c a' c' : Nat} (hc : c < 5) (hc' : c' < 5) (h : ¬ (a' = a ∧ c' = c)) : ma (sA f a c v) a' c' = ma f a' c' := up_ne (by omega)
theorem ma_sA {a c a' c' : Nat} (hc : c < 5) (hc' : c' < 5) : ma (sA f a c v) a' c' = if a' = a ∧ c' = c then v else ma f a' c' := by
  by_cases h : a' = a ∧ c' = c
  · rw [if_pos h, h.1, h.2, ma_sA_at]
  · rw [if_neg h, ma_sA_ne hc hc' h]
theorem ma_sk {t c a c' : Nat} (ha : a < 6) (hc' : c' < 5) : ma (sk f t c v) a c' = ma f a c' := up_ne (by omega)
theorem mk_so {r c t c' : Nat} (hr : r < 8) (hc : c < 6) : mk (so f r c v) t c' = mk f t c' := up_ne (by omega)
theorem mk_sA {a c t c' : Nat} (ha : a < 6) (hc : c < 5) : mk (sA f a c v) t c' = mk f t c' := up_ne (by omega)
theorem mk_sk_at {t c : Nat} : mk (sk f t c v) t c = v := if_pos rfl
theorem mk_sk_ne {t c t' c' : Nat} (hc : c < 5) (hc' : c' < 5) (h : ¬ (t' = t ∧ c' = c)) : mk (sk f t c v) t' c' = mk f t' c' := up_ne (by omega)
theorem mk_sk {t c t' c' : Nat} (hc : c < 5) (hc' : c' < 5) : mk (sk f t c v) t' c' = if t' = t ∧ c' = c then v else mk f t' c' := by
  by_cases h : t' = t ∧ c' = c
  · rw [if_pos h, h.1, h.2, mk_sk_at]
  · rw [if_neg h, mk_sk_ne hc hc' h]
theorem mw_so {r c s c' : Nat} (hr : r < 8) (hc : c < 6) : mw (so f r c v) s c' = mw f s c' := up_ne (by omega)
theorem mw_sA {a c s c' : Nat} (ha : a < 6) (hc : c < 5) : mw (sA f a c v) s c' = mw f s c' := up_ne (by omega)
theorem mw_sk {t c s c' : Nat} (ht : t < 12) (hc : c < 5) : mw (sk f t c v) s c' = mw f s c' := up_ne (by omega)
theorem mo_up {k r c : Nat} (h : k < 12) : mo (upd f k v) r c = mo f r c := up_ne (by omega)
theorem ma_up {k a c : Nat} (h : k < 12) : ma (upd f k v) a c = ma f a c := up_ne (by omega)
theorem mk_up {k t c : Nat} (h : k < 12) : mk (upd f k v) t c = mk f t c := up_ne (by omega)
theorem mw_up {k s c : Nat} (h : k < 12) : mw (upd f k v) s c = mw f s c := up_ne (by omega)
end MLEM
theorem cpR_lo {k j : Nat} (h : j < 90) : ∀ (m c : Nat) (f : Nat → Int32), cpR f k m c j = f j
  | 0, _, _ => rfl
  | m + 1, c, f => by rw [cpR, cpR_lo h m, sk_lo h]
theorem shM_lo {e : Int32} {j : Nat} (h : j < 90) : ∀ (k : Nat) (f : Nat → Int32), (shM e k f).1 j = f j
  | 0, _ => rfl
  | k + 1, f => by
    rw [shM]
    split
    · rfl
    · rw [shM_lo h k, cpR_lo h]
theorem shM_le {e : Int32} : ∀ (k : Nat) (f : Nat → Int32), (shM e k f).2 ≤ k
  | 0, _ => Nat.le_refl _
  | k + 1, f => by
    rw [shM]
    split
    · exact Nat.le_refl _
    · exact Nat.le_succ_of_le (shM_le k _)
theorem putT_lo {f : Nat → Int32} {k a j : Nat} {e d : Int32} (h : j < 90) : putT f k a e d j = f j := by
  simp only [putT, sk_lo h]
theorem addM_lo {f : Nat → Int32} {nt a j : Nat} {e d : Int32} (h : j < 90) (h3 : j ≠ 3) : addM f nt a e d j = f j := by
  rw [addM, up_ne h3, putT_lo h, shM_lo h]
theorem addM_3 {f : Nat → Int32} {nt a : Nat} {e d : Int32} : addM f nt a e d 3 = nI (nt + 1) := up_at
theorem cleanM_lo {f : Nat → Int32} {a j : Nat} (h : j < 60) : cleanM f a j = f j := by
  rw [cleanM, sA_lo h, sA_lo h]
theorem rmF_lo {m j : Nat} (h : j < 150) : ∀ (k : Nat) (f : Nat → Int32), rmF m k f j = f j
  | 0, _ => rfl
  | k + 1, f => by rw [rmF, rmF_lo h k, up_ne (by omega)]
theorem rmM_lo {f : Nat → Int32} {ns s j : Nat} (h : j < 150) (h7 : j ≠ 7) : rmM f ns s j = f j := by rw [rmM, rmF_lo h, up_ne h7]
theorem rmM_7 {f : Nat → Int32} {ns s : Nat} : rmM f ns s 7 = nI (ns - 1) := by rw [rmM, rmF_lo (by decide), up_at]
theorem drM_lo {t : Int32} {j : Nat} (h : j < 150) (h7 : j ≠ 7) : ∀ (k : Nat) (f : Nat → Int32) (ns : Nat), (drM t k f ns).1 j = f j
  | 0, _, _ => rfl
  | k + 1, f, ns => by
    rw [drM]
    split
    · rw [drM_lo h h7 k, rmM_lo h h7]
    · split
      · rw [drM_lo h h7 k]
      · rw [drM_lo h h7 k, rmM_lo h h7]
theorem drM_7 {t : Int32} : ∀ (k : Nat) (f : Nat → Int32) (ns : Nat), f 7 = nI ns → (drM t k f ns).1 7 = nI (drM t k f ns).2
  | 0, _, _, h => h
  | k + 1, f, ns, h => by
    rw [drM]
    split
    · exact drM_7 k _ _ rmM_7
    · split
      · exact drM_7 k _ _ h
      · exact drM_7 k _ _ rmM_7
theorem skM_lo {f : Nat → Int32} {t r j : Nat} (h : j < 12) : skM f t r j = f j := by rw [skM, so_lo h, so_lo h]
theorem skF_lo {who : Nat → Nat} {j : Nat} (h : j < 12) : ∀ (k t : Nat) (f : Nat → Int32) (n : Int32), (skF who k t f n).1 j = f j
  | 0, _, _, _ => rfl
  | k + 1, t, f, n => by
    rw [skF]
    split
    · rw [skF_lo h k]
    · rw [skF_lo h k, skM_lo h]
theorem dcF_lo {j : Nat} (h : j < 12) : ∀ (k r : Nat) (f : Nat → Int32), dcF k r f j = f j
  | 0, _, _ => rfl
  | k + 1, r, f => by rw [dcF, dcF_lo h k, so_lo h]
theorem gwF_lo {j : Nat} (h : j < 60) : ∀ (k a : Nat) (f : Nat → Int32), gwF k a f j = f j
  | 0, _, _ => rfl
  | k + 1, a, f => by rw [gwF, gwF_lo h k, sA_lo h]
theorem gv1_lo {f : Nat → Int32} {nr nt t j : Nat} (h : j < 90) : gv1 f nr nt t j = f j := by rw [gv1, sk_lo h]
theorem gvM_lo {nr nt j : Nat} (h : j < 90) : ∀ (k t : Nat) (f : Nat → Int32), gvM nr nt k t f j = f j
  | 0, _, _ => rfl
  | k + 1, t, f => by rw [gvM, gvM_lo h k, gv1_lo h]
theorem pl1_lo {f : Nat → Int32} {nt a j : Nat} (h : j < 90) (h3 : j ≠ 3) : (pl1 f nt a).1 j = f j := by
  rw [pl1]
  split
  · split
    · rfl
    · exact addM_lo h h3
  · show addM _ _ _ _ _ j = f j
    rw [addM_lo h h3, addM_lo h h3]
theorem pl1_3 {f : Nat → Int32} {nt a : Nat} (h : f 3 = nI nt) : (pl1 f nt a).1 3 = nI (pl1 f nt a).2 := by
  rw [pl1]
  split
  · split
    · exact h
    · exact addM_3 (f := f) (a := a) (e := ma f a 0) (d := 0)
  · exact addM_3 (f := addM f nt a (effM f a) 1) (a := a) (e := effM f a) (d := 1)
theorem pl1_le {f : Nat → Int32} {nt a : Nat} : (pl1 f nt a).2 ≤ nt + 2 := by
  rw [pl1]
  split
  · split <;> simp
  · exact Nat.le_refl _
theorem plA_lo {j : Nat} (h : j < 90) (h3 : j ≠ 3) : ∀ (k a : Nat) (f : Nat → Int32) (nt : Nat), (plA k a f nt).1 j = f j
  | 0, _, _, _ => rfl
  | k + 1, a, f, nt => by rw [plA, plA_lo h h3 k, pl1_lo h h3]
theorem plA_3 : ∀ (k a : Nat) (f : Nat → Int32) (nt : Nat), f 3 = nI nt → (plA k a f nt).1 3 = nI (plA k a f nt).2
  | 0, _, _, _, h => h
  | k + 1, a, f, nt, h => by rw [plA]; exact plA_3 k _ _ _ (pl1_3 h)
theorem plA_le : ∀ (k a : Nat) (f : Nat → Int32) (nt : Nat), (plA k a f nt).2 ≤ nt + 2 * k
  | 0, _, _, _ => Nat.le_refl _
  | k + 1, a, f, nt => by
    have h1 := plA_le k (a + 1) (pl1 f nt a).1 (pl1 f nt a).2
    have h2 := pl1_le (f := f) (nt := nt) (a := a)
    rw [plA]
    omega
