/-! THE ROTA as a value: the house, the states kept, the pad; what each public method answers and makes -/
abbrev XS : Type := HA × (List HA × PV)
def HInv (S : HA) : Prop := (S.2 6 = 0 ∨ S.2 6 = 1) ∧ (S.2 6 = 0 → sz S 2 = 0)
def XOK (σ : Sg) : Prop := HOK σ 0 ∧ HOK σ 1 ∧ HiOK σ ∧ PadOK σ ∧ TOK σ 5 0 ∧ HInv (habs σ 0) ∧ ∀ S ∈ hist σ, HInv S
def xabs (σ : Sg) : XS := (habs σ 0, (hist σ, pv σ))
def FrX (σ σ' : Sg) : Prop := ∀ q : Lo, q.1 = 8 ∨ q.1 = 9 → σ'.1 q = σ.1 q
def XW (X : XS) (σ σ' : Sg) : Prop := xabs σ' = X ∧ XOK σ' ∧ FrX σ σ'
def kp (S : HA) (Hs : List HA) (P : PV) (S' : HA) : XS := (S', (keepL Hs S, P))
theorem XW.rf {σ : Sg} (h : XOK σ) : XW (habs σ 0, (hist σ, pv σ)) σ σ := ⟨rfl, h, fun _ _ => rfl⟩
theorem inv_same {S S' : HA} (h : HInv S) (h6 : S'.2 6 = S.2 6) (h2 : sz S' 2 = sz S 2) : HInv S' := by
  unfold HInv
  rw [h6, h2]
  exact h
theorem hi_FrH {σ σ' : Sg} (hi : HiOK σ) {h0 : Nat} (hF : FrH h0 σ σ') (hlt : h0 < 2) : HiOK σ' ∧ hist σ' = hist σ := by
  have e3 : σ'.1 (3, 0, 0) = σ.1 (3, 0, 0) := hF.1 (3, 0, 0) (by simp) (fun j _ => ⟨by simp, by simp⟩)
  have en : hN σ' = hN σ := by rw [hN, hN, e3]
  obtain ⟨a1, a2, a3, a4, a5⟩ := id hi
  have hne : ∀ i, i < 6 → σ.2 i ≠ h0 := fun i h z => absurd (a3 i h) (by omega)
  refine ⟨⟨by rw [en]; exact a1, by rw [en, e3]; exact a2, by rw [hF.2]; exact a3, by rw [hF.2]; exact a4, fun i h => by rw [hF.2]; exact (hw_other (hne i h) hF).2 (a5 i h)⟩, ?_⟩
  rw [hist, hist, en, hF.2]
  apply List.map_congr_left
  intro i h
  have := List.mem_range.mp h
  exact (hw_other (hne i (by omega)) hF).1
theorem pad_FrH {σ σ' : Sg} {h0 : Nat} (hF : FrH h0 σ σ') : (PadOK σ → PadOK σ') ∧ pv σ' = pv σ ∧ (TOK σ 5 0 → TOK σ' 5 0) ∧ tabs σ' 5 0 = tabs σ 5 0 := by
  have e5 : σ'.1 (5, 0, 0) = σ.1 (5, 0, 0) := hF.1 (5, 0, 0) (by simp) (fun j _ => ⟨by simp, by simp⟩)
  have e6 : σ'.1 (6, 0, 0) = σ.1 (6, 0, 0) := hF.1 (6, 0, 0) (by simp) (fun j _ => ⟨by simp, by simp⟩)
  have t0 : σ'.1 (0, 5, 0) = σ.1 (0, 5, 0) := hF.1 (0, 5, 0) (by simp) (fun j hj => ⟨fun z => by have := congrArg (fun q : Lo => q.2.1) z; simp only at this; omega, by simp⟩)
  have t1 : σ'.1 (1, 5, 0) = σ.1 (1, 5, 0) := hF.1 (1, 5, 0) (by simp) (fun j hj => ⟨by simp, fun z => by have := congrArg (fun q : Lo => q.2.1) z; simp only at this; omega⟩)
  have en : pN σ' = pN σ := by rw [pN, pN, e5]
  exact ⟨fun hP => by rw [PadOK, en, e5]; exact hP, by rw [pv, pv, en, e6], (tabs_of t0 t1).2, (tabs_of t0 t1).1⟩
theorem pad_FrHi {σ σ' : Sg} (hF : FrHi σ σ') : (PadOK σ → PadOK σ') ∧ pv σ' = pv σ ∧ (TOK σ 5 0 → TOK σ' 5 0) ∧ tabs σ' 5 0 = tabs σ 5 0 := by
  have nh : ∀ q : Lo, q.1 = 5 ∨ q.1 = 6 → ¬ isHi q := by
    rintro q hq (z | z)
    · rw [z] at hq; simp at hq
    · omega
  have e5 : σ'.1 (5, 0, 0) = σ.1 (5, 0, 0) := hF _ (nh _ (Or.inl rfl))
  have e6 : σ'.1 (6, 0, 0) = σ.1 (6, 0, 0) := hF _ (nh _ (Or.inr rfl))
  have t0 : σ'.1 (0, 5, 0) = σ.1 (0, 5, 0) := hF _ (notHi (by decide) (by decide))
  have t1 : σ'.1 (1, 5, 0) = σ.1 (1, 5, 0) := hF _ (notHi (by decide) (by decide))
  have en : pN σ' = pN σ := by rw [pN, pN, e5]
  exact ⟨fun hP => by rw [PadOK, en, e5]; exact hP, by rw [pv, pv, en, e6], (tabs_of t0 t1).2, (tabs_of t0 t1).1⟩
theorem keepL_inv {l : List HA} {S : HA} (hl : ∀ T ∈ l, HInv T) (hS : HInv S) : ∀ T ∈ keepL l S, HInv T := by
  intro T hT
  unfold keepL at hT
  rcases List.mem_append.mp hT with h | h
  · split at h
    · exact hl T h
    · exact hl T (List.mem_of_mem_tail h)
  · rw [List.mem_singleton.mp h]
    exact hS
-- a call that keeps the house and changes it
theorem x_mut {σ σ1 σ2 : Sg} {S' : HA} (hX : XOK σ) (k1 : HiOK σ1) (k2 : hist σ1 = keepL (hist σ) (habs σ 0)) (k3 : FrHi σ σ1) (h1 : habs σ2 0 = S') (h2 : HOK σ2 0) (h3 : FrH 0 σ1 σ2) (hI : HInv S') : XW (kp (habs σ 0) (hist σ) (pv σ) S') σ σ2 := by
  obtain ⟨x0, x1, x2, x3, x4, x5, x6⟩ := hX
  obtain ⟨i1, i2⟩ := hi_FrH k1 h3 (by decide)
  obtain ⟨p1, p2, p3, -⟩ := pad_FrHi k3
  obtain ⟨q1, q2, q3, -⟩ := pad_FrH h3
  have hh : hist σ2 = keepL (hist σ) (habs σ 0) := i2.trans k2
  refine ⟨?_, ⟨h2, (hw_other (by decide) h3).2 ((k3.house (by decide)).2 x1), i1, q1 (p1 x3), q3 (p3 x4), by rw [h1]; exact hI, by rw [hh]; exact keepL_inv x6 x5⟩, fun q hq => ?_⟩
  · rw [xabs, kp, h1, hh, q2, p2]
  · have nh : ¬ isHi q := by
      rintro (z | z)
      · rw [z] at hq; simp at hq
      · omega
    refine (h3.1 q ?_ (fun j _ => ⟨?_, ?_⟩)).trans (k3 q nh) <;> (intro z; rw [z] at hq; simp at hq)
def sw (n : Nat) (x : Int32) (f : Nat → Int32) (d : Int32) : Int32 := if x < 0 ∨ nI n ≤ x then d else f x.toNatClampNeg
theorem sw_lo {n : Nat} {x : Int32} {f : Nat → Int32} {d : Int32} (h : x < 0) : sw n x f d = d := if_pos (Or.inl h)
theorem sw_hi {n : Nat} {x : Int32} {f : Nat → Int32} {d : Int32} (h : nI n ≤ x) : sw n x f d = d := if_pos (Or.inr h)
theorem sw_in {n j : Nat} {f : Nat → Int32} {d : Int32} (hn : n < 2 ^ 31) (h : j < n) : sw n (nI j) f d = f j := by
  rw [sw, if_neg, nI_clamp (by omega)]
  rintro (q | q)
  · exact nI_pos (by omega) q
  · rw [nI_leI hn (by omega)] at q; omega
theorem tab_lo {x : Int32} (h : x < 0) : x.toInt < 0 := by
  have := Int32.lt_iff_toInt_lt.mp h
  simpa using this
theorem tab_hi {x : Int32} (n : Nat) (hn : n + 1 < 2 ^ 31) (h : nI (n + 1) ≤ x) : (n : Int) < x.toInt := by
  have h1 := Int32.le_iff_toInt_le.mp h
  rw [nI_toInt hn] at h1
  omega
def setOkS (s v : Int32) : Int32 := sw 4 s (fun j => match j with
  | 0 => isInS v 0 100
  | 1 => isInS v 0 100
  | 2 => isInS v 2 6
  | _ => isInS v 1 1000) 0
def xresident (S : HA) (Hs : List HA) (P : PV) (w : Int32) : Int32 × XS :=
  if ¬ isInS w 1 10 = 0 then (if fullS S 0 = 0 then (nI (sz S 0), kp S Hs P (addResS S w)) else (-4, (S, (Hs, P)))) else (-2, (S, (Hs, P)))
def xweigh (S : HA) (Hs : List HA) (P : PV) (r w : Int32) : Int32 × XS :=
  if ¬ hasT r (sz S 0) = 0 then (if ¬ isInS w 1 10 = 0 then (cl S 0 r 0, kp S Hs P (wr S 0 r 0 w)) else (-2, (S, (Hs, P)))) else (-1, (S, (Hs, P)))
def xaway (S : HA) (Hs : List HA) (P : PV) (r f t : Int32) : Int32 × XS :=
  if ¬ hasT r (sz S 0) = 0 then (if isInS f 0 999 = 0 then (-2, (S, (Hs, P))) else if ¬ isInS t f 999 = 0 then (bitS (awayS (wr (wr S 0 r 1 f) 0 r 2 t) r), kp S Hs P (wr (wr S 0 r 1 f) 0 r 2 t)) else (-2, (S, (Hs, P)))) else (-1, (S, (Hs, P)))
def xarea (S : HA) (Hs : List HA) (P : PV) (e p g : Int32) : Int32 × XS :=
  if isInS e 1 20 = 0 then (-2, (S, (Hs, P))) else if isInS p 1 4 = 0 then (-2, (S, (Hs, P))) else if ¬ isInS g 0 200 = 0 then (if fullS S 1 = 0 then (nI (sz S 1), kp S Hs P (addAreaS S e p g)) else (-4, (S, (Hs, P)))) else (-2, (S, (Hs, P)))
def xset (S : HA) (Hs : List HA) (P : PV) (s v : Int32) : Int32 × XS :=
  if ¬ setOkS s v = 0 then (cl S 4 0 s, kp S Hs P (wr S 4 0 s v)) else (-2, (S, (Hs, P)))
def xplan (S : HA) (Hs : List HA) (P : PV) : Int32 × XS :=
  if S.2 6 = 0 then (nI (sz (planS S) 2), kp S Hs P (planS S)) else (-5, (S, (Hs, P)))
def xdone (S : HA) (Hs : List HA) (P : PV) (t : Int32) : Int32 × XS :=
  if ¬ hasT t (sz S 2) = 0 then (if ¬ openS S t = 0 then (cl S 2 t 2, kp S Hs P (finS S t)) else (-5, (S, (Hs, P)))) else (-1, (S, (Hs, P)))
def xextra (S : HA) (Hs : List HA) (P : PV) (r a : Int32) : Int32 × XS :=
  if hasT r (sz S 0) = 0 then (-1, (S, (Hs, P))) else if ¬ hasT a (sz S 1) = 0 then (if cl S 0 r 4 = 0 then (-5, (S, (Hs, P))) else if awayS S r = 0 then (cl (payS S r a) 0 r 4, kp S Hs P (payS S r a)) else (-5, (S, (Hs, P)))) else (-1, (S, (Hs, P)))
def xend (S : HA) (Hs : List HA) (P : PV) : Int32 × XS :=
  if S.2 6 = 0 then (-5, (S, (Hs, P))) else if S.2 5 < 999 then (cntL S (sz S 2), kp S Hs P (endS S)) else (-5, (S, (Hs, P)))
def xpropose (S : HA) (Hs : List HA) (P : PV) (a b : Int32) : Int32 × XS :=
  if hasT a (sz S 2) = 0 then (-1, (S, (Hs, P))) else if ¬ hasT b (sz S 2) = 0 then
    (if canS S a b = 0 then (-5, (S, (Hs, P))) else if propF S a b (sz S 3) 0 = 0 then (if fullS S 3 = 0 then (nI (sz (addSwS S a b) 3), kp S Hs P (addSwS S a b)) else (-4, (S, (Hs, P)))) else (-5, (S, (Hs, P)))) else (-1, (S, (Hs, P)))
def xanswer (S : HA) (Hs : List HA) (P : PV) (s y : Int32) : Int32 × XS :=
  if ¬ hasT s (sz S 3) = 0 then (if ¬ isInS y 0 1 = 0 then (if ¬ y = 1 then (nI (sz S 3 - 1), kp S Hs P (setT S 3 (trem (S.1 3) s.toNatClampNeg))) else (nI (sz (accS S s) 3), kp S Hs P (accS S s))) else (-2, (S, (Hs, P)))) else (-1, (S, (Hs, P)))
def xabout (S : HA) (r w : Int32) : Int32 := if ¬ hasT r (sz S 0) = 0 then sw 9 w (fun j => match j with
  | 0 => cl S 0 r 0
  | 1 => cl S 0 r 3
  | 2 => cl S 0 r 4
  | 3 => cl S 0 r 5
  | 4 => loadS S r
  | 5 => rateS S r (cl S 0 r 3)
  | 6 => cntOL S r (sz S 2)
  | 7 => firstF S r (sz S 2) 0
  | _ => bitS (awayS S r)) (-2) else -1
def xroom (S : HA) (a w : Int32) : Int32 := if ¬ hasT a (sz S 1) = 0 then sw 7 w (fun j => match j with
  | 0 => cl S 1 a 0
  | 1 => cl S 1 a 1
  | 2 => cl S 1 a 2
  | 3 => cl S 1 a 3
  | 4 => bitS (deepS S a)
  | 5 => bitS (dueS S a)
  | _ => cl S 1 a 4) (-2) else -1
def xtask (S : HA) (t w : Int32) : Int32 := if ¬ hasT t (sz S 2) = 0 then sw 5 w (fun j => match j with
  | 0 => cl S 2 t 0
  | 1 => cl S 2 t 1
  | 2 => cl S 2 t 2
  | 3 => cl S 2 t 3
  | _ => cl S 2 t 4) (-2) else -1
def xswap (S : HA) (s w : Int32) : Int32 := if ¬ hasT s (sz S 3) = 0 then sw 4 w (fun j => match j with
  | 0 => cl S 3 s 0
  | 1 => cl S 3 s 1
  | 2 => cl S 2 (cl S 3 s 0) 1
  | _ => cl S 2 (cl S 3 s 1) 1) (-2) else -1
def xcount (S : HA) (Hs : List HA) (P : PV) (w : Int32) : Int32 := sw 17 w (fun j => match j with
  | 0 => S.2 5
  | 1 => nI (sz S 0)
  | 2 => nI (sz S 1)
  | 3 => nI (sz S 2)
  | 4 => cntL S (sz S 2)
  | 5 => S.2 7
  | 6 => S.2 8
  | 7 => nI (sz S 3)
  | 8 => bitS (S.2 6)
  | 9 => spreadS S 0 (-6) (-6) 0
  | 10 => spreadS S 1 (-6) (-6) 0
  | 11 => nI P.1
  | 12 => nI Hs.length
  | 13 => cl S 4 0 0
  | 14 => cl S 4 0 1
  | 15 => cl S 4 0 2
  | _ => cl S 4 0 3) (-2)
