/-! THE MODEL'S OTHER PLACES: copies from row to row, keeping -/
section XROW
variable {l : Launch} {R : Room} {own : String} {cc : ByteArray} {nL : Nat} {ret : Option FieldType} {post : Option AV → Sg → Prop} {pc : Nat} {loc : List (Option AV)} {st : List AV} {σ : Sg}
theorem g_xld {q : Lo} {n : Nat} {i : Int32} {k : Nat} (hsh : shp q = .inr (0, n)) (hi : i = nI k) (hk : k < n) (hn : n < 2 ^ 31) (hd : decode cc pc = .ok (.iaload, 1)) (kk : G l R own cc nL ret post (pc + 1) loc (vI (σ.1 q k) :: st) σ) : G l R own cc nL ret post pc loc (vI i :: vR q :: st) σ := by
  subst hi
  refine g_iald (n := n) hsh (vp_in_nI hk hn) hd ?_
  rw [nI_clamp (by omega)]
  exact kk
theorem g_xst {q : Lo} {n : Nat} {i v : Int32} {k : Nat} (hsh : shp q = .inr (0, n)) (hi : i = nI k) (hk : k < n) (hn : n < 2 ^ 31) (hd : decode cc pc = .ok (.iastore, 1)) (kk : G l R own cc nL ret post (pc + 1) loc st (upd2 σ.1 q k v, σ.2)) : G l R own cc nL ret post pc loc (vI v :: vI i :: vR q :: st) σ := by
  subst hi
  refine g_iast (n := n) hsh (vp_in_nI hk hn) hd ?_
  rw [nI_clamp (by omega)]
  exact kk
end XROW
def FrA (q : Lo) (σ σ' : Sg) : Prop := (∀ p, p ≠ q → σ'.1 p = σ.1 p) ∧ σ'.2 = σ.2
theorem FrA.rf {q : Lo} {σ : Sg} : FrA q σ σ := ⟨fun _ _ => rfl, rfl⟩
theorem FrA.tr {q : Lo} {σ σ1 σ2 : Sg} (a : FrA q σ σ1) (b : FrA q σ1 σ2) : FrA q σ σ2 := ⟨fun p h => (b.1 p h).trans (a.1 p h), b.2.trans a.2⟩
theorem FrA.up {q : Lo} {σ : Sg} {k : Nat} {v : Int32} : FrA q σ (upd2 σ.1 q k v, σ.2) := ⟨fun p h => upd2_ne σ.1 (q := q) (p := p) k v h, rfl⟩
def CP (q : Lo) (b : Nat) (src : Nat → Int32) (j : Nat) (τ0 τ : Sg) : Prop := FrA q τ0 τ ∧ ∀ i, τ.1 q i = if b ≤ i ∧ i < b + j then src (i - b) else τ0.1 q i
theorem cp_0 {q : Lo} {b : Nat} {src : Nat → Int32} {τ0 : Sg} : CP q b src 0 τ0 τ0 := ⟨FrA.rf, fun i => by rw [if_neg (by omega)]⟩
theorem cp_s {q : Lo} {b j : Nat} {src : Nat → Int32} {τ0 τ : Sg} {v : Int32} (h : CP q b src j τ0 τ) (hv : v = src j) : CP q b src (j + 1) τ0 (upd2 τ.1 q (b + j) v, τ.2) := by
  refine ⟨h.1.tr FrA.up, fun i => ?_⟩
  show upd2 τ.1 q (b + j) v q i = _
  rw [upd2_same]
  by_cases hi : i = b + j
  · subst hi
    rw [up_at, if_pos (by omega), hv, show b + j - b = j by omega]
  · rw [up_ne hi, h.2 i]
    by_cases h2 : b ≤ i ∧ i < b + j
    · rw [if_pos h2, if_pos (by omega)]
    · rw [if_neg h2, if_neg (by omega)]
theorem cp_in {q : Lo} {b j k : Nat} {src : Nat → Int32} {τ0 τ : Sg} (h : CP q b src j τ0 τ) (hk : k < j) : τ.1 q (b + k) = src k := by
  rw [h.2, if_pos (by omega), show b + k - b = k by omega]
theorem cp_out {q : Lo} {b j i : Nat} {src : Nat → Int32} {τ0 τ : Sg} (h : CP q b src j τ0 τ) (hk : ¬ (b ≤ i ∧ i < b + j)) : τ.1 q i = τ0.1 q i := by
  rw [h.2, if_neg hk]
theorem ix162 (n j : Nat) : (162 : Int32) * nI n + nI j = nI (162 * n + j) := by rw [show (162 : Int32) = nI 162 from rfl, pk_mul, nI_add]
-- the row f is kept behind n states (the oldest goes when there are six)
def KP (n : Nat) (σ : Sg) (f : Nat → Int32) (τ : Sg) : Prop :=
  τ.2 = σ.2 ∧ (∀ p, p ≠ (9, 2, 0) → p ≠ (8, 0, 0) → τ.1 p = σ.1 p) ∧ (∀ k, k ≠ 3 → τ.1 (8, 0, 0) k = σ.1 (8, 0, 0) k) ∧ τ.1 (8, 0, 0) 3 = nI (if n < 6 then n + 1 else 6) ∧
  (∀ i k, i < (if n < 6 then n else 5) → k < 162 → τ.1 (9, 2, 0) (162 * i + k) = σ.1 (9, 2, 0) (162 * (if n < 6 then i else i + 1) + k)) ∧ ∀ k, k < 162 → τ.1 (9, 2, 0) (162 * (if n < 6 then n else 5) + k) = f k
theorem kp_lo {n : Nat} {σ τ τ' : Sg} (hn : n < 6) (h : CP (9, 2, 0) (162 * n) (σ.1 (9, 0, 0)) 162 σ τ) (e : (upd2 τ.1 (8, 0, 0) 3 (nI (n + 1)), τ.2) = τ') : KP n σ (σ.1 (9, 0, 0)) τ' := by
  subst e
  have h2 : ∀ p, p ≠ (8, 0, 0) → (upd2 τ.1 (8, 0, 0) 3 (nI (n + 1)), τ.2).1 p = τ.1 p := fun p hp => upd2_ne τ.1 (q := (8, 0, 0)) (p := p) 3 (nI (n + 1)) hp
  have h8 : (upd2 τ.1 (8, 0, 0) 3 (nI (n + 1)), τ.2).1 (8, 0, 0) = upd (τ.1 (8, 0, 0)) 3 (nI (n + 1)) := upd2_same τ.1 (8, 0, 0) 3 (nI (n + 1))
  refine ⟨h.1.2, fun p h9 hp => by rw [h2 p hp, h.1.1 p h9], fun k hk => by rw [h8, up_ne hk, h.1.1 _ (by simp)], by rw [h8, up_at, if_pos hn], fun i k hi hk => ?_, fun k hk => ?_⟩
  · rw [if_pos hn] at hi ⊢
    rw [h2 _ (by simp), cp_out h (by omega)]
  · rw [if_pos hn, h2 _ (by simp), cp_in h hk]
theorem kp_hi {σ τ1 τ2 τ τ' : Sg} (h1 : CP (9, 2, 0) 0 (fun i => σ.1 (9, 2, 0) (i + 162)) 810 σ τ1) (e2 : (upd2 τ1.1 (8, 0, 0) 3 (nI 5), τ1.2) = τ2) (h : CP (9, 2, 0) (162 * 5) (τ2.1 (9, 0, 0)) 162 τ2 τ) (e : (upd2 τ.1 (8, 0, 0) 3 (nI (5 + 1)), τ.2) = τ') : KP 6 σ (σ.1 (9, 0, 0)) τ' := by
  have k := kp_lo (n := 5) (by decide) h e
  have h2 : ∀ p, p ≠ (8, 0, 0) → τ2.1 p = τ1.1 p := fun p hp => by rw [← e2]; exact upd2_ne τ1.1 (q := (8, 0, 0)) (p := p) 3 (nI 5) hp
  have h8 : τ2.1 (8, 0, 0) = upd (τ1.1 (8, 0, 0)) 3 (nI 5) := by rw [← e2]; exact upd2_same τ1.1 (8, 0, 0) 3 (nI 5)
  obtain ⟨k1, k2, k3, k4, k5, k6⟩ := k
  have e22 : τ2.2 = τ1.2 := by rw [← e2]
  refine ⟨k1.trans (e22.trans h1.1.2), fun p h9 hp => by rw [k2 p h9 hp, h2 p hp, h1.1.1 p h9], fun j hj => by rw [k3 j hj, h8, up_ne hj, h1.1.1 _ (by simp)], k4, fun i j hi hj => ?_, fun j hj => ?_⟩
  · have hi5 : i < 5 := hi
    have e5 := k5 i j hi hj
    rw [if_pos (by decide)] at e5
    rw [e5, h2 _ (by simp), if_neg (by decide)]
    have := cp_in h1 (k := 162 * i + j) (by omega)
    rw [Nat.zero_add] at this
    rw [this]
    show σ.1 (9, 2, 0) (162 * i + j + 162) = _
    rw [show 162 * i + j + 162 = 162 * (i + 1) + j by omega]
  · have e6 := k6 j hj
    rw [if_pos (by decide)] at e6
    rw [if_neg (by decide), e6, h2 _ (by simp), h1.1.1 _ (by simp)]
