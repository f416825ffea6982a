/-! THE ROTA: texts, undo, forecasts (laid by wip/p26/mk17.py) -/
theorem x_pad {σ σ' : Sg} (hX : XOK σ) (hP : PadOK σ') (hF : FrP σ σ') : XW (habs σ 0, (hist σ, pv σ')) σ σ' := by
  obtain ⟨x0, x1, x2, x3, x4, x5, x6⟩ := hX
  have hh : ∀ h, habs σ' h = habs σ h ∧ (HOK σ h → HOK σ' h) := fun h => habs_of (fun j => hF.1 _ (by simp) (by simp)) (fun j => hF.1 _ (by simp) (by simp)) (hF.1 _ (by simp) (by simp))
  have e3 : σ'.1 (3, 0, 0) = σ.1 (3, 0, 0) := hF.1 _ (by simp) (by simp)
  have en : hN σ' = hN σ := by rw [hN, hN, e3]
  have eh : hist σ' = hist σ := by
    rw [hist, hist, en, hF.2]
    apply List.map_congr_left
    intro i _
    exact (hh _).1
  obtain ⟨a1, a2, a3, a4, a5⟩ := x2
  refine ⟨by rw [xabs, (hh 0).1, eh], ⟨(hh 0).2 x0, (hh 1).2 x1, ⟨by rw [en]; exact a1, by rw [en, e3]; exact a2, by rw [hF.2]; exact a3, by rw [hF.2]; exact a4, fun i h => by rw [hF.2]; exact (hh _).2 (a5 i h)⟩, hP, (tabs_of (hF.1 (0, 5, 0) (by simp) (by simp)) (hF.1 (1, 5, 0) (by simp) (by simp))).2 x4, by rw [(hh 0).1]; exact x5, by rw [eh]; exact x6⟩, fun q hq => hF.1 q ?_ ?_⟩ <;> (intro z; rw [z] at hq; simp at hq)
theorem x_parts {σ σ' : Sg} {T : TV} (hX : XOK σ) (hT : TW 5 0 T σ σ') : XW (habs σ 0, (hist σ, pv σ)) σ σ' := by
  obtain ⟨x0, x1, x2, x3, x4, x5, x6⟩ := hX
  obtain ⟨t1, t2, t3, t4⟩ := id hT
  have n0 : ∀ j h, ((0, j, h) : Lo) ≠ (0, 5, 0) ∨ j = 5 := fun j h => by
    by_cases hj : j = 5
    · exact Or.inr hj
    · exact Or.inl (fun z => hj (congrArg (fun q : Lo => q.2.1) z))
  have hh : ∀ h, habs σ' h = habs σ h ∧ (HOK σ h → HOK σ' h) := fun h => by
    have e0 : ∀ j, j < 5 → σ'.1 (0, j, h) = σ.1 (0, j, h) := fun j hj => t3 _ (fun z => by have := congrArg (fun q : Lo => q.2.1) z; simp only at this; omega) (by simp)
    have e1 : ∀ j, j < 5 → σ'.1 (1, j, h) = σ.1 (1, j, h) := fun j hj => t3 _ (by simp) (fun z => by have := congrArg (fun q : Lo => q.2.1) z; simp only at this; omega)
    have e2 : σ'.1 (2, 0, h) = σ.1 (2, 0, h) := t3 _ (by simp) (by simp)
    refine ⟨Prod.ext ?_ ?_, fun hH => ⟨hH.1, fun j hj => (tabs_of (e0 j hj) (e1 j hj)).2 (hH.2 j hj)⟩⟩
    · funext j
      show (if j < 5 then tabs σ' j h else _) = if j < 5 then tabs σ j h else _
      by_cases hj : j < 5
      · rw [if_pos hj, if_pos hj, (tabs_of (e0 j hj) (e1 j hj)).1]
      · rw [if_neg hj, if_neg hj]
    · funext k
      show (if 5 ≤ k ∧ k ≤ 8 then σ'.1 (2, 0, h) k else 0) = if 5 ≤ k ∧ k ≤ 8 then σ.1 (2, 0, h) k else 0
      rw [e2]
  have e3 : σ'.1 (3, 0, 0) = σ.1 (3, 0, 0) := t3 _ (by simp) (by simp)
  have en : hN σ' = hN σ := by rw [hN, hN, e3]
  have eh : hist σ' = hist σ := by
    rw [hist, hist, en, t4]
    apply List.map_congr_left
    intro i _
    exact (hh _).1
  obtain ⟨a1, a2, a3, a4, a5⟩ := x2
  obtain ⟨p1, p2⟩ := tw_pad hT
  refine ⟨by rw [xabs, (hh 0).1, eh, p1], ⟨(hh 0).2 x0, (hh 1).2 x1, ⟨by rw [en]; exact a1, by rw [en, e3]; exact a2, by rw [t4]; exact a3, by rw [t4]; exact a4, fun i h => by rw [t4]; exact (hh _).2 (a5 i h)⟩, p2 x3, t2, by rw [(hh 0).1]; exact x5, by rw [eh]; exact x6⟩, fun q hq => t3 q ?_ ?_⟩ <;> (intro z; rw [z] at hq; simp at hq)
theorem x_trial {σ σ' : Sg} (hX : XOK σ) (h1 : HOK σ' 1) (hF : FrH 1 σ σ') : XW (habs σ 0, (hist σ, pv σ)) σ σ' := by
  obtain ⟨x0, x1, x2, x3, x4, x5, x6⟩ := hX
  obtain ⟨i1, i2⟩ := hi_FrH x2 hF (by decide)
  obtain ⟨q1, q2, q3, -⟩ := pad_FrH hF
  obtain ⟨o1, o2⟩ := hw_other (h2 := 0) (by decide) hF
  refine ⟨by rw [xabs, o1, i2, q2], ⟨o2 x0, h1, i1, q1 x3, q3 x4, by rw [o1]; exact x5, by rw [i2]; exact x6⟩, fun q hq => hF.1 q ?_ (fun j _ => ⟨?_, ?_⟩)⟩ <;> (intro z; rw [z] at hq; simp at hq)
theorem XW.tr {X1 X2 : XS} {σ σ1 σ2 : Sg} (a : XW X1 σ σ1) (b : XW X2 σ1 σ2) : XW X2 σ σ2 := ⟨b.1, b.2.1, fun q hq => (b.2.2 q hq).trans (a.2.2 q hq)⟩
theorem cnt_nI : ∀ (k : Nat) (x : Int64) (m : Nat), ∃ c, c ≤ m + k ∧ cntC k x (nI m) = nI c
  | 0, x, m => ⟨m, Nat.le_refl _, rfl⟩
  | k + 1, x, m => by
    rw [cntC]
    split
    · exact ⟨m, by omega, rfl⟩
    · split
      · obtain ⟨c, h1, h2⟩ := cnt_nI k (shr8 x) (m + 1)
        exact ⟨c, by omega, by rw [nI_1]; exact h2⟩
      · exact ⟨0, by omega, rfl⟩
theorem appF_1 (x : Int64) : ∀ (k : Nat) (P : PV), (appF x k P).1 = P.1 + k
  | 0, P => rfl
  | k + 1, P => by rw [appF, appF_1 x k]; show P.1 + 1 + k = P.1 + (k + 1); omega
def T0 : TV := (0, fun _ _ => 0)
def P0 : PV := (0, fun _ => 0)
def xput (S : HA) (Hs : List HA) (P : PV) (x : Int64) : Int32 × XS :=
  if ¬ cntC 8 x 0 = 0 then (if nI P.1 + cntC 8 x 0 ≤ 60 then (nI (P.1 + (cntC 8 x 0).toNatClampNeg), (S, (Hs, appF x (cntC 8 x 0).toNatClampNeg P))) else (-4, (S, (Hs, P)))) else (-2, (S, (Hs, P)))
def xwipe (S : HA) (Hs : List HA) (P : PV) : Int32 × XS := (nI P.1, (S, (Hs, P0)))
def xfault (P : PV) : Int32 := (rdF P 61 0 T0).1
def loadF (T : TV) : Nat → Nat → HA → HA
  | 0, _, S => S
  | k + 1, p, S => loadF T k (p + 1) (finFT S (T.2 p 0).toNatClampNeg (T.2 p 1))
def loadS2 (S : HA) (P : PV) : HA := loadF (rdF P 61 0 T0).2 (rdF P 61 0 T0).2.1 0 S
def xload (S : HA) (Hs : List HA) (P : PV) : Int32 × XS :=
  if (rdF P 61 0 T0).1 = -6 then ((loadS2 S P).2 7 - S.2 7, (loadS2 S P, (keepL Hs S, P0))) else (-3, (S, (Hs, P)))
def xundo (S : HA) (Hs : List HA) (P : PV) : Int32 × XS := if Hs.length = 0 then (-5, (S, (Hs, P))) else (nI (Hs.length - 1), (Hs.getD (Hs.length - 1) S, (Hs.dropLast, P)))
def fcF : Nat → HA → Int32 → HA × Int32
  | 0, S, d => (S, d)
  | k + 1, S, d =>
    if 999 ≤ S.2 5 then (S, d) else
    fcF k (endS (finFT (if ¬ S.2 6 = 0 then S else planS S) 0 (nI (sz (if ¬ S.2 6 = 0 then S else planS S) 2) - 1))) (d + cntDL (if ¬ S.2 6 = 0 then S else planS S) (sz (if ¬ S.2 6 = 0 then S else planS S) 2))
def fcA (S : HA) (q : HA × Int32) (w : Int32) : Int32 := sw 3 w (fun j => match j with
  | 0 => spreadS q.1 0 (-6) (-6) 0
  | 1 => q.1.2 7 - S.2 7
  | _ => q.2) (dirtL q.1 (sz q.1 1))
def xforecast (S : HA) (n w : Int32) : Int32 :=
  if isInS n 0 60 = 0 then -2 else if ¬ isInS w 0 3 = 0 then fcA S (fcF n.toNatClampNeg S 0) w else -2
abbrev P3 : Type := Int32 × (Int32 × Int32)
def frStep (S : HA) (a b : Nat) (p : P3) : P3 :=
  if p.2.2 ≤ (if canS S (nI a) (nI b) = 0 then p.2.2 else spreadIfS S (nI a) (nI b)) then p else (nI a, (nI b, if canS S (nI a) (nI b) = 0 then p.2.2 else spreadIfS S (nI a) (nI b)))
def frI (S : HA) (a : Nat) : Nat → Nat → P3 → P3
  | 0, _, p => p
  | k + 1, b, p => frI S a k (b + 1) (frStep S a b p)
def frO (S : HA) (n : Nat) : Nat → Nat → P3 → P3
  | 0, _, p => p
  | k + 1, a, p => frO S n k (a + 1) (frI S a (n - (a + 1)) (a + 1) p)
def frS (S : HA) : P3 := frO S (sz S 2) (sz S 2) 0 (-6, (-6, spreadS S 1 (-6) (-6) 0))
def xfairer (S : HA) (w : Int32) : Int32 :=
  if ¬ isInS w 0 2 = 0 then (if ¬ (frS S).1 = -6 then (if w = 0 then (frS S).1 else if w = 1 then (frS S).2.1 else (frS S).2.2) else -6) else -2
theorem isIn_ex {x : Int32} {n : Nat} (hn : n < 2 ^ 31) (h : ¬ isInS x 0 (nI n) = 0) : ∃ r, r ≤ n ∧ x = nI r := by
  unfold isInS at h
  split at h
  · exact absurd rfl h
  · rename_i h0
    split at h
    · exact absurd rfl h
    · rename_i h1
      obtain ⟨m, hm, rfl⟩ := nI_of h0
      rw [nI_ltI hn hm] at h1
      exact ⟨m, by omega, rfl⟩
-- numbers that are read
theorem dig_ex {c : Int32} (h : ¬ isInS c 48 57 = 0) : ∃ d, d ≤ 9 ∧ c = nI (48 + d) := by
  unfold isInS at h
  split at h
  · exact absurd rfl h
  · rename_i h0
    split at h
    · exact absurd rfl h
    · rename_i h1
      have h48 : ¬ c < 0 := fun z => h0 (Int32.lt_iff_toInt_lt.mpr (by have := Int32.lt_iff_toInt_lt.mp z; have e0 : (0 : Int32).toInt = 0 := rfl; have e8 : (48 : Int32).toInt = 48 := rfl; omega))
      obtain ⟨m, hm, rfl⟩ := nI_of h48
      rw [show (48 : Int32) = nI 48 from rfl, nI_ltI hm (by decide)] at h0
      rw [show (57 : Int32) = nI 57 from rfl, nI_ltI (by decide) hm] at h1
      exact ⟨m - 48, by omega, by rw [show 48 + (m - 48) = m from by omega]⟩
theorem dig_1 (d : Nat) : nI (48 + d) - 48 = nI d := by
  rw [show (48 : Int32) = nI 48 from rfl, pk_sub (by omega), Nat.add_sub_cancel_left]
theorem num_ok {P : PV} {s : Nat} (h : ¬ eonS P s = s) : ∃ t, t ≤ 99 ∧ numS P s (eonS P s) = nI t := by
  unfold eonS at h ⊢
  split
  · rename_i h1
    obtain ⟨d, hd, e⟩ := dig_ex h1
    have one : numS P s (s + 1) = nI d := by
      unfold numS
      rw [show s + 1 - s = 1 from by omega, numF, numF, e, show (10 : Int32) * 0 = 0 from rfl, Int32.zero_add, dig_1]
    split
    · exact ⟨d, by omega, one⟩
    · split
      · exact ⟨d, by omega, one⟩
      · rename_i h3
        obtain ⟨d2, hd2, e2⟩ := dig_ex h3
        refine ⟨10 * d + d2, by omega, ?_⟩
        unfold numS
        rw [show s + 2 - s = 2 from by omega, numF, numF, numF, e, e2, show (10 : Int32) * 0 = 0 from rfl, Int32.zero_add, dig_1, show (10 : Int32) = nI 10 from rfl, pk_mul, nI_add, show 10 * d + (48 + d2) = 48 + (10 * d + d2) from by omega, dig_1]
  · rename_i h1
    exact absurd (if_neg h1) h
def PartsOK (T : TV) : Prop := T.1 ≤ 30 → ∀ r, r < T.1 → ∃ t, t ≤ 99 ∧ T.2 r 0 = nI t
theorem addP_1 (T : TV) (f g : Int32) : (addP T f g).1 = T.1 + 1 := rfl
theorem addP_c {T : TV} {f g : Int32} (hn : T.1 < 2 ^ 30) (r c : Nat) : (addP T f g).2 r c = if r = T.1 ∧ c = 1 then g else if r = T.1 ∧ c = 0 then f else T.2 r c := by
  show (twr 2 (twr 2 (tapp T) (nI T.1) (nI 0) f) (nI T.1) (nI 1) g).2 r c = _
  rw [twr_nI (T := twr 2 (tapp T) (nI T.1) (nI 0) f) (r := T.1) (c := 1) (show T.1 < T.1 + 1 by omega) (by decide) (by omega) (by decide), twr_nI (T := tapp T) (r := T.1) (c := 0) (show T.1 < T.1 + 1 by omega) (by decide) (by omega) (by decide)]
  rfl
theorem addP_ok {T : TV} {f g : Int32} (h : PartsOK T) (hf : ∃ t, t ≤ 99 ∧ f = nI t) : PartsOK (addP T f g) := by
  intro h30 r hr
  have h30' : T.1 + 1 ≤ 30 := h30
  have hr' : r < T.1 + 1 := hr
  rw [addP_c (by omega), if_neg (by omega)]
  by_cases hrr : r = T.1
  · rw [if_pos ⟨hrr, rfl⟩]; exact hf
  · rw [if_neg (fun z => hrr z.1)]; exact h (by omega) r (by omega)
theorem rd_ok {P : PV} : ∀ (k s : Nat) (T : TV), PartsOK T → PartsOK (rdF P k s T).2
  | 0, _, _, h => h
  | k + 1, s, T, h => by
    rw [rdF]
    split
    · rename_i h1
      have hf := num_ok h1
      split
      · split
        · split
          · exact rd_ok k _ _ (addP_ok h hf)
          · exact addP_ok h hf
        · exact addP_ok h hf
      · split
        · exact h
        · split
          · split
            · split
              · exact rd_ok k _ _ (addP_ok h hf)
              · exact addP_ok h hf
            · exact addP_ok h hf
          · exact h
    · exact h
theorem x_undo {σ σ1 : Sg} {n : Nat} {S : HA} (hX : XOK σ) (y1 : HiOK σ1) (y2 : hist σ1 = (List.range n).map (fun i => habs σ (σ.2 i))) (y3 : HOK σ1 0) (y4 : habs σ1 0 = S) (y5 : ∀ q, q ≠ (3, 0, 0) → q ≠ (2, 0, 0) → (∀ j, j < 5 → q ≠ (0, j, 0) ∧ q ≠ (1, j, 0)) → σ1.1 q = σ.1 q) (hI : HInv S) (hall : ∀ S ∈ (List.range n).map (fun i => habs σ (σ.2 i)), HInv S) : XW (S, ((List.range n).map (fun i => habs σ (σ.2 i)), pv σ)) σ σ1 := by
  obtain ⟨x0, x1, x2, x3, x4, x5, x6⟩ := hX
  have e5 : σ1.1 (5, 0, 0) = σ.1 (5, 0, 0) := y5 _ (by simp) (by simp) (fun j _ => ⟨by simp, by simp⟩)
  have e6 : σ1.1 (6, 0, 0) = σ.1 (6, 0, 0) := y5 _ (by simp) (by simp) (fun j _ => ⟨by simp, by simp⟩)
  have t0 : σ1.1 (0, 5, 0) = σ.1 (0, 5, 0) := y5 _ (by simp) (by simp) (fun j hj => ⟨fun z => by have := congrArg (fun q : Lo => q.2.1) z; simp only at this; omega, by simp⟩)
  have t1 : σ1.1 (1, 5, 0) = σ.1 (1, 5, 0) := y5 _ (by simp) (by simp) (fun j hj => ⟨by simp, fun z => by have := congrArg (fun q : Lo => q.2.1) z; simp only at this; omega⟩)
  have en : pN σ1 = pN σ := by rw [pN, pN, e5]
  have h1 : habs σ1 1 = habs σ 1 ∧ (HOK σ 1 → HOK σ1 1) := habs_of (fun j => y5 _ (by simp) (by simp) (fun i _ => ⟨by simp, by simp⟩)) (fun j => y5 _ (by simp) (by simp) (fun i _ => ⟨by simp, by simp⟩)) (y5 _ (by simp) (by simp) (fun i _ => ⟨by simp, by simp⟩))
  refine ⟨by rw [xabs, y4, y2, pv, pv, en, e6], ⟨y3, h1.2 x1, y1, by rw [PadOK, en, e5]; exact x3, (tabs_of t0 t1).2 x4, by rw [y4]; exact hI, by rw [y2]; exact hall⟩, fun q hq => y5 q ?_ ?_ (fun j _ => ⟨?_, ?_⟩)⟩ <;> (intro z; rw [z] at hq; simp at hq)
theorem g_mono {l : Launch} {R : Room} {own : String} {cc : ByteArray} {nL : Nat} {ret : Option FieldType} {post post' : Option AV → Sg → Prop} {pc : Nat} {loc : List (Option AV)} {st : List AV} {σ : Sg} (h : G l R own cc nL ret post pc loc st σ) (hp : ∀ o σ', post o σ' → post' o σ') : G l R own cc nL ret post' pc loc st σ := by
  intro E p e s m args below meth c H locs ls C hσ hst hloc hlen hlv hP hS T hT X
  obtain ⟨t, g1, o, g2, g3, hQ, g4⟩ := h E p e s m args below meth c H locs ls C hσ hst hloc hlen hlv hP hS T hT X
  refine ⟨t, g1, o, g2, g3, ?_, g4⟩
  clear g1 g2 g3 g4 h
  revert hQ
  match ret with
  | none => exact fun ⟨⟨u, g1, g2, g3⟩, g4⟩ => ⟨⟨u, g1, hp _ _ g2, g3⟩, g4⟩
  | some (.object _) => exact fun ⟨⟨r, u, g1, ⟨oo, g5, g6, g2⟩, g3⟩, g4⟩ => ⟨⟨r, u, g1, ⟨oo, g5, g6, hp _ _ g2⟩, g3⟩, g4⟩
  | some .boolean => exact fun ⟨⟨r, u, g1, g2, g3⟩, g4⟩ => ⟨⟨r, u, g1, hp _ _ g2, g3⟩, g4⟩
  | some .int => exact fun ⟨⟨r, u, g1, g2, g3⟩, g4⟩ => ⟨⟨r, u, g1, hp _ _ g2, g3⟩, g4⟩
  | some .byte => exact fun ⟨⟨r, u, g1, g2, g3⟩, g4⟩ => ⟨⟨r, u, g1, hp _ _ g2, g3⟩, g4⟩
  | some .char => exact fun ⟨⟨r, u, g1, g2, g3⟩, g4⟩ => ⟨⟨r, u, g1, hp _ _ g2, g3⟩, g4⟩
  | some .short => exact fun ⟨⟨r, u, g1, g2, g3⟩, g4⟩ => ⟨⟨r, u, g1, hp _ _ g2, g3⟩, g4⟩
  | some .long => exact fun ⟨⟨r, u, g1, g2, g3⟩, g4⟩ => ⟨⟨r, u, g1, hp _ _ g2, g3⟩, g4⟩
  | some .float => exact fun ⟨⟨r, u, g1, g2, g3⟩, g4⟩ => ⟨⟨r, u, g1, hp _ _ g2, g3⟩, g4⟩
  | some .double => exact fun ⟨⟨r, u, g1, g2, g3⟩, g4⟩ => ⟨⟨r, u, g1, hp _ _ g2, g3⟩, g4⟩
  | some (.array _) => exact fun ⟨⟨r, u, g1, g2, g3⟩, g4⟩ => ⟨⟨r, u, g1, hp _ _ g2, g3⟩, g4⟩
theorem inv_finG {last : Int32} : ∀ (k t : Nat) (S : HA), HInv S → HInv (finG last k t S)
  | 0, _, _, h => h
  | k + 1, t, S, h => by
    rw [finG]
    split
    · exact h
    · split
      · exact h
      · split
        · exact inv_finG k _ S h
        · exact inv_finG k _ _ (inv_fin h _)
theorem inv_finFT {S : HA} (h : HInv S) (f : Nat) (last : Int32) : HInv (finFT S f last) := inv_finG _ _ S h
theorem inv_loadF {T : TV} : ∀ (k p : Nat) (S : HA), HInv S → HInv (loadF T k p S)
  | 0, _, _, h => h
  | k + 1, p, S, h => by rw [loadF]; exact inv_loadF k _ _ (inv_finFT h _ _)
theorem inv_load {S : HA} (h : HInv S) (P : PV) : HInv (loadS2 S P) := inv_loadF _ _ S h
set_option maxHeartbeats 2000000 in
theorem c_X4_put (l : Launch) {σ : Sg} {x : Int64} (hX : XOK σ)  : Con l 2 yX4_put cX4_put 4 (some .int) [vR (7, 0, 0), vL x] σ (fun o σ' => o = some (vI (xput (habs σ 0) (hist σ) (pv σ) x).1) ∧ XW (xput (habs σ 0) (hist σ) (pv σ) x).2 σ σ') := by
  refine con_of pn_X4_put (Nat.le_of_ble_eq_true rfl) (fun hPK hok => ?_)
  show G l (Rm 2) RX4 cX4_put 4 (some .int) _ 0 [some (vR (7, 0, 0)), some (vL x), none, none] [] σ
  obtain ⟨x0, x1, x2, x3, x4, x5, x6⟩ := id hX
  refine g_blk (pc' := 1) (loc' := [some (vR (7, 0, 0)), some (vL x), none, none]) (st' := [vL x]) (σ' := σ) fl4_ok [(0, .lload_n 1)] (by decide +kernel) rfl rfl ?_
  refine g_callSp [vL x] [] sl_RX4_196 mi_X2_countCharacters (c_X2_countCharacters l) rfl ⟨Nat.le_of_ble_eq_true rfl, Nat.le_of_ble_eq_true rfl⟩ rfl (Nat.le_of_ble_eq_true rfl) (by decide +kernel) ?_
  obtain ⟨c, hc8, hce⟩ := cnt_nI 8 x 0
  have hce : cntC 8 x 0 = nI c := hce
  rw [hce]
  refine g_blk (pc' := 6) (loc' := [some (vR (7, 0, 0)), some (vL x), none, some (vI (nI c))]) (st' := [vI (nI c)]) (σ' := σ) fl4_ok [(4, .istore_n 3), (5, .iload_n 3)] (by decide +kernel) rfl rfl ?_
  refine g_if_ne (off := 6) (tgt := 12) (by decide +kernel) (by decide) (fun zc6 => ?_) (fun zc6 => ?_)
  · refine g_blk (pc' := 23) (loc' := [some (vR (7, 0, 0)), some (vL x), none, some (vI (nI c))]) (st' := [vI (60 : Int32), vI ((σ.1 (5, 0, 0) 1) + (nI c))]) (σ' := σ) fl4_ok [(12, .aload_n 0), (13, .getfield 29), (16, .getfield 175), (19, .iload_n 3), (20, .iadd), (21, .bipush 60)] (by decide +kernel) rfl rfl ?_
    refine g_icmp_le (off := 6) (tgt := 29) (by decide +kernel) (by decide) (fun zc23 => ?_) (fun zc23 => ?_)
    · refine g_blk (pc' := 35) (loc' := [some (vR (7, 0, 0)), some (vL x), none, some (vI (nI c))]) (st' := [vI (nI c), vL x, vR (5, 0, 0)]) (σ' := σ) fl4_ok [(29, .aload_n 0), (30, .getfield 29), (33, .lload_n 1), (34, .iload_n 3)] (by decide +kernel) rfl rfl ?_
      rw [x3.2, nI_add, show (60 : Int32) = nI 60 from rfl, nI_leI (by have := x3.1; omega) (by decide)] at zc23
      refine g_callV (5, 0, 0) [vL x, vI (nI c)] [] vl_RX4_200 mi_X2_append (c_X2_append l (x := x) (c := c) x3 zc23) rfl rfl rfl rfl ⟨Nat.le_of_ble_eq_true rfl, Nat.le_of_ble_eq_true rfl⟩ rfl (Nat.le_of_ble_eq_true rfl) (by decide +kernel) (fun o σ1 hP1 => ?_)
      obtain ⟨rfl, y1, y2, y3⟩ := hP1
      refine g_blk (pc' := 45) (loc' := [some (vR (7, 0, 0)), some (vL x), none, some (vI (nI c))]) (st' := [vI (σ1.1 (5, 0, 0) 1)]) (σ' := σ1) fl4_ok [(38, .aload_n 0), (39, .getfield 29), (42, .getfield 175)] (by decide +kernel) rfl rfl ?_
      have hle : nI (pv σ).1 + nI c ≤ 60 := by rw [show (pv σ).1 = pN σ from rfl, nI_add, show (60 : Int32) = nI 60 from rfl, nI_leI (by have := x3.1; omega) (by decide)]; exact zc23
      have hlen : pN σ1 = pN σ + c := (congrArg Prod.fst y2).trans (appF_1 x c (pv σ))
      have hXW := x_pad hX y1 y3
      rw [y2] at hXW
      refine g_iret (by decide +kernel) ⟨?_, ?_⟩
      · rw [xput, hce, if_pos zc6, if_pos hle, nI_clamp (by omega), y1.2, hlen]
        rfl
      · rw [xput, hce, if_pos zc6, if_pos hle, nI_clamp (by omega)]
        exact hXW
    · refine g_blk (pc' := 28) (loc' := [some (vR (7, 0, 0)), some (vL x), none, some (vI (nI c))]) (st' := [vI (-4 : Int32)]) (σ' := σ) fl4_ok [(26, .bipush (-4))] (by decide +kernel) rfl rfl ?_
      have hle : ¬ nI (pv σ).1 + nI c ≤ 60 := by rw [show nI (pv σ).1 = σ.1 (5, 0, 0) 1 from x3.2.symm]; exact zc23
      exact g_iret (by decide +kernel) ⟨by rw [xput, hce, if_pos zc6, if_neg hle], by rw [xput, hce, if_pos zc6, if_neg hle]; exact XW.rf hX⟩
  · refine g_blk (pc' := 11) (loc' := [some (vR (7, 0, 0)), some (vL x), none, some (vI (nI c))]) (st' := [vI (-2 : Int32)]) (σ' := σ) fl4_ok [(9, .bipush (-2))] (by decide +kernel) rfl rfl ?_
    exact g_iret (by decide +kernel) ⟨by rw [xput, hce, if_neg (not_not_intro zc6)], by rw [xput, hce, if_neg (not_not_intro zc6)]; exact XW.rf hX⟩
set_option maxHeartbeats 2000000 in
theorem c_X4_wipe (l : Launch) {σ : Sg}  (hX : XOK σ)  : Con l 0 yX4_wipe cX4_wipe 2 (some .int) [vR (7, 0, 0)] σ (fun o σ' => o = some (vI (xwipe (habs σ 0) (hist σ) (pv σ)).1) ∧ XW (xwipe (habs σ 0) (hist σ) (pv σ)).2 σ σ') := by
  refine con_of pn_X4_wipe (Nat.le_of_ble_eq_true rfl) (fun hPK hok => ?_)
  show G l (Rm 0) RX4 cX4_wipe 2 (some .int) _ 0 [some (vR (7, 0, 0)), none] [] σ
  obtain ⟨x0, x1, x2, x3, x4, x5, x6⟩ := id hX
  refine g_blk (pc' := 16) (loc' := [some (vR (7, 0, 0)), some (vI (σ.1 (5, 0, 0) 1))]) (st' := []) (σ' := (upd2 σ.1 (5, 0, 0) 1 (0 : Int32), σ.2)) fl4_ok [(0, .aload_n 0), (1, .getfield 29), (4, .getfield 175), (7, .istore_n 1), (8, .aload_n 0), (9, .getfield 29), (12, .iconst 0), (13, .putfield 175)] (by decide +kernel) rfl rfl ?_
  generalize hσ1 : ((upd2 σ.1 (5, 0, 0) 1 (0 : Int32), σ.2) : Sg) = σ1
  obtain ⟨y1, y2, y3, y4⟩ := pad_N (n := 0) (Nat.zero_le _) hσ1
  refine g_blk (pc' := 17) (loc' := [some (vR (7, 0, 0)), some (vI (σ.1 (5, 0, 0) 1))]) (st' := [vI (σ.1 (5, 0, 0) 1)]) (σ' := σ1) fl4_ok [(16, .iload_n 1)] (by decide +kernel) rfl rfl ?_
  have hXW := x_pad hX y1 y4
  have hpv : pv σ1 = P0 := Prod.ext y2 (by rw [y3]; funext i; exact if_neg (Nat.not_lt_zero i))
  rw [hpv] at hXW
  exact g_iret (by decide +kernel) ⟨by rw [x3.2]; rfl, hXW⟩
set_option maxHeartbeats 2000000 in
theorem c_X4_fault (l : Launch) {σ : Sg}  (hX : XOK σ)  : Con l 4 yX4_fault cX4_fault 1 (some .int) [vR (7, 0, 0)] σ (fun o σ' => o = some (vI ((xfault (pv σ), ((habs σ 0, (hist σ, pv σ)) : XS))).1) ∧ XW ((xfault (pv σ), ((habs σ 0, (hist σ, pv σ)) : XS))).2 σ σ') := by
  refine con_of pn_X4_fault (Nat.le_of_ble_eq_true rfl) (fun hPK hok => ?_)
  show G l (Rm 4) RX4 cX4_fault 1 (some .int) _ 0 [some (vR (7, 0, 0))] [] σ
  obtain ⟨x0, x1, x2, x3, x4, x5, x6⟩ := id hX
  refine g_blk (pc' := 4) (loc' := [some (vR (7, 0, 0))]) (st' := [vR (5, 0, 0)]) (σ' := σ) fl4_ok [(0, .aload_n 0), (1, .getfield 29)] (by decide +kernel) rfl rfl ?_
  refine g_callV (5, 0, 0) [] [] vl_RX4_204 mi_X2_read (c_X2_read l x3 x4) rfl rfl rfl rfl ⟨Nat.le_of_ble_eq_true rfl, Nat.le_of_ble_eq_true rfl⟩ rfl (Nat.le_of_ble_eq_true rfl) (by decide +kernel) (fun o σ1 hP1 => ?_)
  obtain ⟨rfl, hTW⟩ := hP1
  exact g_iret (by decide +kernel) ⟨rfl, x_parts hX hTW⟩
set_option maxHeartbeats 2000000 in
theorem c_X4_undo (l : Launch) {σ : Sg}  (hX : XOK σ)  : Con l 4 yX4_undo cX4_undo 1 (some .int) [vR (7, 0, 0)] σ (fun o σ' => o = some (vI (xundo (habs σ 0) (hist σ) (pv σ)).1) ∧ XW (xundo (habs σ 0) (hist σ) (pv σ)).2 σ σ') := by
  refine con_of pn_X4_undo (Nat.le_of_ble_eq_true rfl) (fun hPK hok => ?_)
  show G l (Rm 4) RX4 cX4_undo 1 (some .int) _ 0 [some (vR (7, 0, 0))] [] σ
  obtain ⟨x0, x1, x2, x3, x4, x5, x6⟩ := id hX
  refine g_blk (pc' := 7) (loc' := [some (vR (7, 0, 0))]) (st' := [vI (σ.1 (3, 0, 0) 1)]) (σ' := σ) fl4_ok [(0, .aload_n 0), (1, .getfield 22), (4, .getfield 178)] (by decide +kernel) rfl rfl ?_
  refine g_if_ne (off := 6) (tgt := 13) (by decide +kernel) (by decide) (fun zc7 => ?_) (fun zc7 => ?_)
  · refine g_blk (pc' := 21) (loc' := [some (vR (7, 0, 0))]) (st' := [vR (2, 0, 0), vR (3, 0, 0)]) (σ' := σ) fl4_ok [(13, .aload_n 0), (14, .getfield 22), (17, .aload_n 0), (18, .getfield 10)] (by decide +kernel) rfl rfl ?_
    have h0n : ¬ hN σ = 0 := fun z => zc7 (by rw [x2.2.1, z]; rfl)
    obtain ⟨n, hn⟩ : ∃ n, hN σ = n + 1 := ⟨hN σ - 1, by omega⟩
    have hn6 : n < 6 := by have := x2.1; omega
    have hmem : habs σ (σ.2 n) ∈ hist σ := by rw [hist_eq hn]; exact List.mem_map.mpr ⟨n, List.mem_range.mpr (by omega), rfl⟩
    refine g_callV (3, 0, 0) [vR (2, 0, 0)] [] vl_RX4_214 mi_X0_restore (c_X0_restore l x2 hn x0 (x6 _ hmem).1) rfl rfl rfl rfl ⟨Nat.le_of_ble_eq_true rfl, Nat.le_of_ble_eq_true rfl⟩ rfl (Nat.le_of_ble_eq_true rfl) (by decide +kernel) (fun o σ1 hP1 => ?_)
    obtain ⟨rfl, y1, y2, y3, y4, y5⟩ := hP1
    refine g_blk (pc' := 31) (loc' := [some (vR (7, 0, 0))]) (st' := [vI (σ1.1 (3, 0, 0) 1)]) (σ' := σ1) fl4_ok [(24, .aload_n 0), (25, .getfield 22), (28, .getfield 178)] (by decide +kernel) rfl rfl ?_
    have hl : (hist σ).length = n + 1 := by rw [hist, List.length_map, List.length_range, hn]
    have hln : ¬ (hist σ).length = 0 := by omega
    have e1 : (hist σ).getD ((hist σ).length - 1) (habs σ 0) = habs σ (σ.2 n) := by
      rw [hl, Nat.add_sub_cancel, hist_eq hn, List.getD_eq_getElem?_getD, List.getElem?_map, List.getElem?_range (by omega)]
      rfl
    have e2 : (hist σ).dropLast = (List.range n).map (fun i => habs σ (σ.2 i)) := by
      rw [hist_eq hn, List.range_succ, List.map_append, List.map_cons, List.map_nil, List.dropLast_concat]
    have hnN : hN σ1 = n := by
      have e : (hist σ1).length = n := by rw [y2, List.length_map, List.length_range]
      rw [hist, List.length_map, List.length_range] at e
      exact e
    refine g_iret (by decide +kernel) ⟨?_, ?_⟩
    · rw [xundo, if_neg hln, hl, y1.2.1, hnN]
      rfl
    · rw [xundo, if_neg hln, e1, e2]
      exact x_undo hX y1 y2 y3 y4 y5 (x6 _ hmem) (fun S hS => x6 S (by rw [hist_eq hn, List.range_succ, List.map_append]; exact List.mem_append_left _ hS))
  · refine g_blk (pc' := 12) (loc' := [some (vR (7, 0, 0))]) (st' := [vI (-5 : Int32)]) (σ' := σ) fl4_ok [(10, .bipush (-5))] (by decide +kernel) rfl rfl ?_
    have hl0 : (hist σ).length = 0 := by
      rw [hist, List.length_map, List.length_range]
      rw [x2.2.1] at zc7
      exact (nI_eq (b := 0) (by have := x2.1; omega) (by decide)).mp zc7
    exact g_iret (by decide +kernel) ⟨by rw [xundo, if_pos hl0], by rw [xundo, if_pos hl0]; exact XW.rf hX⟩
set_option maxHeartbeats 2000000 in
theorem lp_X4_load (l : Launch) {σ0 : Sg} {T : TV} {b : Int32} {Sf : HA} (h30 : T.1 ≤ 30) (hok : ∀ r, r < T.1 → ∃ t, t ≤ 99 ∧ T.2 r 0 = nI t) : ∀ (k p : Nat) (σ : Sg), HOK σ 0 → TOK σ 5 0 → tabs σ 5 0 = T → p + k = T.1 → loadF T k p (habs σ 0) = Sf → FrH 0 σ0 σ → G l (Rm 5) RX4 cX4_load 3 (some .int) (fun o σ' => o = some (vI (Sf.2 7 - b)) ∧ habs σ' 0 = Sf ∧ HOK σ' 0 ∧ ∃ σ1, FrH 0 σ0 σ1 ∧ (upd2 σ1.1 (5, 0, 0) 1 (nI 0), σ1.2) = σ') 36 [some (vR (7, 0, 0)), some (vI b), some (vI (nI p))] [] σ := by
  intro k
  induction k with
  | zero =>
    intro p σ hH hT hTe hk hd hF
    refine g_blk (pc' := 44) (loc' := [some (vR (7, 0, 0)), some (vI b), some (vI (nI p))]) (st' := [vR (0, 5, 0), vI (nI p)]) (σ' := σ) fl4_ok [(36, .iload_n 2), (37, .aload_n 0), (38, .getfield 29), (41, .getfield 207)] (by decide +kernel) rfl rfl ?_
    refine g_callVp (0, 5, 0) [] [vI (nI p)] vl_RX4_157 mi_X3_size (c_X3_size l hT) rfl rfl rfl rfl ⟨Nat.le_of_ble_eq_true rfl, Nat.le_of_ble_eq_true rfl⟩ rfl (Nat.le_of_ble_eq_true rfl) (by decide +kernel) ?_
    refine g_icmp_ge (off := 40) (tgt := 87) (by decide +kernel) (by decide) (fun zc47 => ?_) (fun zc47 => ?_)
    · rw [show tN σ 5 0 = T.1 from congrArg Prod.fst hTe, nI_leI (by omega) (by omega)] at zc47
      refine g_blk (pc' := 95) (loc' := [some (vR (7, 0, 0)), some (vI b), some (vI (nI p))]) (st' := []) (σ' := (upd2 σ.1 (5, 0, 0) 1 (0 : Int32), σ.2)) fl4_ok [(87, .aload_n 0), (88, .getfield 29), (91, .iconst 0), (92, .putfield 175)] (by decide +kernel) rfl rfl ?_
      generalize hσ1 : ((upd2 σ.1 (5, 0, 0) 1 (0 : Int32), σ.2) : Sg) = σ1
      have hh := habs_of (σ := σ) (σ' := σ1) (h := 0) (fun j => by rw [← hσ1]; exact upd2_ne σ.1 (q := (5, 0, 0)) (p := (0, j, 0)) 1 0 (by simp)) (fun j => by rw [← hσ1]; exact upd2_ne σ.1 (q := (5, 0, 0)) (p := (1, j, 0)) 1 0 (by simp)) (by rw [← hσ1]; exact upd2_ne σ.1 (q := (5, 0, 0)) (p := (2, 0, 0)) 1 0 (by simp))
      refine g_blk (pc' := 104) (loc' := [some (vR (7, 0, 0)), some (vI b), some (vI (nI p))]) (st' := [vI (((habs σ1 0).2 7) - b)]) (σ' := σ1) fl4_ok [(95, .aload_n 0), (96, .getfield 10), (99, .getfield 163), (102, .iload_n 1), (103, .isub)] (by decide +kernel) rfl rfl ?_
      have hd1 : habs σ 0 = Sf := hd
      exact g_iret (by decide +kernel) ⟨by rw [hh.1, hd1], by rw [hh.1, hd1], hh.2 hH, σ, hF, hσ1⟩
    · rw [show tN σ 5 0 = T.1 from congrArg Prod.fst hTe, nI_leI (by omega) (by omega)] at zc47
      exact absurd (by omega) zc47
  | succ k ih =>
    intro p σ hH hT hTe hk hd hF
    refine g_blk (pc' := 44) (loc' := [some (vR (7, 0, 0)), some (vI b), some (vI (nI p))]) (st' := [vR (0, 5, 0), vI (nI p)]) (σ' := σ) fl4_ok [(36, .iload_n 2), (37, .aload_n 0), (38, .getfield 29), (41, .getfield 207)] (by decide +kernel) rfl rfl ?_
    refine g_callVp (0, 5, 0) [] [vI (nI p)] vl_RX4_157 mi_X3_size (c_X3_size l hT) rfl rfl rfl rfl ⟨Nat.le_of_ble_eq_true rfl, Nat.le_of_ble_eq_true rfl⟩ rfl (Nat.le_of_ble_eq_true rfl) (by decide +kernel) ?_
    refine g_icmp_ge (off := 40) (tgt := 87) (by decide +kernel) (by decide) (fun zc47 => ?_) (fun zc47 => ?_)
    · rw [show tN σ 5 0 = T.1 from congrArg Prod.fst hTe, nI_leI (by omega) (by omega)] at zc47
      exact absurd zc47 (by omega)
    · rw [show tN σ 5 0 = T.1 from congrArg Prod.fst hTe, nI_leI (by omega) (by omega)] at zc47
      refine g_blk (pc' := 63) (loc' := [some (vR (7, 0, 0)), some (vI b), some (vI (nI p))]) (st' := [vI (0 : Int32), vI (nI p), vR (0, 5, 0), vR (2, 0, 0)]) (σ' := σ) fl4_ok [(50, .aload_n 0), (51, .getfield 10), (54, .aload_n 0), (55, .getfield 29), (58, .getfield 207), (61, .iload_n 2), (62, .iconst 0)] (by decide +kernel) rfl rfl ?_
      refine g_callVp (0, 5, 0) [vI (nI p), vI (0 : Int32)] [vR (2, 0, 0)] vl_RX4_107 mi_X3_cell (c_X3_cell l (nI p) (0 : Int32) hT) rfl rfl rfl rfl ⟨Nat.le_of_ble_eq_true rfl, Nat.le_of_ble_eq_true rfl⟩ rfl (Nat.le_of_ble_eq_true rfl) (by decide +kernel) ?_
      refine g_blk (pc' := 75) (loc' := [some (vR (7, 0, 0)), some (vI b), some (vI (nI p))]) (st' := [vI (1 : Int32), vI (nI p), vR (0, 5, 0), vI (tcell (tabs σ 5 0) (nI p) (0 : Int32)), vR (2, 0, 0)]) (σ' := σ) fl4_ok [(66, .aload_n 0), (67, .getfield 29), (70, .getfield 207), (73, .iload_n 2), (74, .iconst 1)] (by decide +kernel) rfl rfl ?_
      refine g_callVp (0, 5, 0) [vI (nI p), vI (1 : Int32)] [vI (tcell (tabs σ 5 0) (nI p) (0 : Int32)), vR (2, 0, 0)] vl_RX4_107 mi_X3_cell (c_X3_cell l (nI p) (1 : Int32) hT) rfl rfl rfl rfl ⟨Nat.le_of_ble_eq_true rfl, Nat.le_of_ble_eq_true rfl⟩ rfl (Nat.le_of_ble_eq_true rfl) (by decide +kernel) ?_
      rw [hTe, show (0 : Int32) = nI 0 from rfl, show (1 : Int32) = nI 1 from rfl, tcell_nI (by omega) (by decide), tcell_nI (by omega) (by decide)]
      obtain ⟨t, ht, hte⟩ := hok p (by omega)
      rw [hte]
      refine g_callV (2, 0, 0) [vI (nI t), vI (T.2 p 1)] [] vl_RX4_210 mi_X1_finishFromTo (c_X1_finishFromTo l (t := t) (T.2 p 1) hH (by omega)) rfl rfl rfl rfl ⟨Nat.le_of_ble_eq_true rfl, Nat.le_of_ble_eq_true rfl⟩ rfl (Nat.le_of_ble_eq_true rfl) (by decide +kernel) (fun o σ1 hPσ1 => ?_)
      obtain ⟨rfl, hWσ1⟩ := hPσ1
      refine g_blk (pc' := 36) (loc' := [some (vR (7, 0, 0)), some (vI b), some (vI ((nI p) + (1 : Int32)))]) (st' := []) (σ' := σ1) fl4_ok [(81, .iinc 2 1), (84, .goto (-48))] (by decide +kernel) rfl rfl ?_
      have hpf := pad_FrH (hWσ1.2.2)
      rw [nI_1]
      exact ih (p + 1) σ1 hWσ1.2.1 (hpf.2.2.1 hT) (by rw [hpf.2.2.2]; exact hTe) (by omega) (by rw [hWσ1.1]; rw [loadF, hte, nI_clamp (by omega)] at hd; exact hd) (hF.tr (hWσ1.2.2))
theorem lp_X4_load' (l : Launch) {σ : Sg} {T : TV} {b : Int32} {Sf : HA} {post : Option AV → Sg → Prop} (h30 : T.1 ≤ 30) (hok : ∀ r, r < T.1 → ∃ t, t ≤ 99 ∧ T.2 r 0 = nI t) (hH : HOK σ 0) (hT : TOK σ 5 0) (hTe : tabs σ 5 0 = T) (hd : loadF T T.1 0 (habs σ 0) = Sf)
    (kk : ∀ σ', habs σ' 0 = Sf → HOK σ' 0 → (∃ σ1, FrH 0 σ σ1 ∧ (upd2 σ1.1 (5, 0, 0) 1 (nI 0), σ1.2) = σ') → post (some (vI (Sf.2 7 - b))) σ') : G l (Rm 5) RX4 cX4_load 3 (some .int) post 36 [some (vR (7, 0, 0)), some (vI b), some (vI (0 : Int32))] [] σ :=
  g_mono (lp_X4_load l h30 hok T.1 0 σ hH hT hTe (by omega) hd FrH.rf) (fun o σ' hp => by obtain ⟨rfl, h1, h2, h3⟩ := hp; exact kk σ' h1 h2 h3)
set_option maxHeartbeats 2000000 in
theorem c_X4_load (l : Launch) {σ : Sg}  (hX : XOK σ)  : Con l 5 yX4_load cX4_load 3 (some .int) [vR (7, 0, 0)] σ (fun o σ' => o = some (vI (xload (habs σ 0) (hist σ) (pv σ)).1) ∧ XW (xload (habs σ 0) (hist σ) (pv σ)).2 σ σ') := by
  refine con_of pn_X4_load (Nat.le_of_ble_eq_true rfl) (fun hPK hok => ?_)
  show G l (Rm 5) RX4 cX4_load 3 (some .int) _ 0 [some (vR (7, 0, 0)), none, none] [] σ
  obtain ⟨x0, x1, x2, x3, x4, x5, x6⟩ := id hX
  refine g_blk (pc' := 4) (loc' := [some (vR (7, 0, 0)), none, none]) (st' := [vR (5, 0, 0)]) (σ' := σ) fl4_ok [(0, .aload_n 0), (1, .getfield 29)] (by decide +kernel) rfl rfl ?_
  refine g_callV (5, 0, 0) [] [] vl_RX4_204 mi_X2_read (c_X2_read l x3 x4) rfl rfl rfl rfl ⟨Nat.le_of_ble_eq_true rfl, Nat.le_of_ble_eq_true rfl⟩ rfl (Nat.le_of_ble_eq_true rfl) (by decide +kernel) (fun o σ1 hP1 => ?_)
  obtain ⟨rfl, hTW⟩ := hP1
  refine g_blk (pc' := 9) (loc' := [some (vR (7, 0, 0)), none, none]) (st' := [vI (-6 : Int32), vI ((rdF (pv σ) 61 0 T0).1)]) (σ' := σ1) fl4_ok [(7, .bipush (-6))] (by decide +kernel) rfl rfl ?_
  refine g_icmp_eq (off := 6) (tgt := 15) (by decide +kernel) (by decide) (fun zc9 => ?_) (fun zc9 => ?_)
  · refine g_blk (pc' := 23) (loc' := [some (vR (7, 0, 0)), none, none]) (st' := [vR (2, 0, 0), vR (3, 0, 0)]) (σ' := σ1) fl4_ok [(15, .aload_n 0), (16, .getfield 22), (19, .aload_n 0), (20, .getfield 10)] (by decide +kernel) rfl rfl ?_
    have hX1 := x_parts hX hTW
    have hXok := hX1.2.1
    have e0 : habs σ1 0 = habs σ 0 := congrArg Prod.fst hX1.1
    have eh : hist σ1 = hist σ := congrArg (fun X : XS => X.2.1) hX1.1
    obtain ⟨w0, w1, w2, w3, w4, w5, w6⟩ := id hXok
    refine g_callV (3, 0, 0) [vR (2, 0, 0)] [] vl_RX4_47 mi_X0_keep (c_X0_keep l w2 w0 w5.1) rfl rfl rfl rfl ⟨Nat.le_of_ble_eq_true rfl, Nat.le_of_ble_eq_true rfl⟩ rfl (Nat.le_of_ble_eq_true rfl) (by decide +kernel) (fun o σk hPk => ?_)
    obtain ⟨rfl, k1, k2, k3⟩ := hPk
    obtain ⟨hS0, hH0⟩ := k3.house (h := 0) (by decide)
    refine g_blk (pc' := 36) (loc' := [some (vR (7, 0, 0)), some (vI ((habs σk 0).2 7)), some (vI (0 : Int32))]) (st' := []) (σ' := σk) fl4_ok [(26, .aload_n 0), (27, .getfield 10), (30, .getfield 163), (33, .istore_n 1), (34, .iconst 0), (35, .istore_n 2)] (by decide +kernel) rfl rfl ?_
    have hT2 : tabs σ1 5 0 = (rdF (pv σ) 61 0 T0).2 := hTW.1
    have h30 : (rdF (pv σ) 61 0 T0).2.1 ≤ 30 := by rw [← hT2]; exact w4.1
    obtain ⟨-, -, g3, g4⟩ := pad_FrHi k3
    have hb : (habs σk 0).2 7 = (habs σ 0).2 7 := by rw [hS0, e0]
    rw [hb]
    refine lp_X4_load' l h30 (rd_ok 61 0 T0 (fun _ r hr => absurd hr (Nat.not_lt_zero r)) h30) (hH0 w0) (g3 w4) (g4.trans hT2) (Sf := loadS2 (habs σ 0) (pv σ)) (by rw [hS0, e0]; rfl) (fun σ2 m1 m2 m3 => ?_)
    obtain ⟨σ3, m4, m5⟩ := m3
    rw [xload, if_pos zc9]
    refine ⟨rfl, ?_⟩
    have hxm := x_mut hXok k1 k2 k3 (σ2 := σ3) (S' := loadS2 (habs σ 0) (pv σ)) (by rw [← m1, ← m5]; exact (habs_of (fun j => (upd2_ne σ3.1 (q := (5, 0, 0)) (p := (0, j, 0)) 1 (nI 0) (by simp)).symm) (fun j => (upd2_ne σ3.1 (q := (5, 0, 0)) (p := (1, j, 0)) 1 (nI 0) (by simp)).symm) (upd2_ne σ3.1 (q := (5, 0, 0)) (p := (2, 0, 0)) 1 (nI 0) (by simp)).symm).1) ((habs_of (fun j => by rw [← m5]; exact (upd2_ne σ3.1 (q := (5, 0, 0)) (p := (0, j, 0)) 1 (nI 0) (by simp)).symm) (fun j => by rw [← m5]; exact (upd2_ne σ3.1 (q := (5, 0, 0)) (p := (1, j, 0)) 1 (nI 0) (by simp)).symm) (by rw [← m5]; exact (upd2_ne σ3.1 (q := (5, 0, 0)) (p := (2, 0, 0)) 1 (nI 0) (by simp)).symm)).2 m2) m4 (inv_load x5 (pv σ))
    obtain ⟨y1, y2, y3, y4⟩ := pad_N (n := 0) (Nat.zero_le _) m5
    have hpv : pv σ2 = P0 := Prod.ext y2 (by rw [y3]; funext i; exact if_neg (Nat.not_lt_zero i))
    have hxp := x_pad hxm.2.1 y1 y4
    have e3h : habs σ3 0 = loadS2 (habs σ 0) (pv σ) := congrArg Prod.fst hxm.1
    have e3l : hist σ3 = keepL (hist σ) (habs σ 0) := by rw [← eh, ← e0]; exact congrArg (fun X : XS => X.2.1) hxm.1
    rw [hpv, e3h, e3l] at hxp
    exact (hX1.tr hxm).tr hxp
  · refine g_blk (pc' := 14) (loc' := [some (vR (7, 0, 0)), none, none]) (st' := [vI (-3 : Int32)]) (σ' := σ1) fl4_ok [(12, .bipush (-3))] (by decide +kernel) rfl rfl ?_
    exact g_iret (by decide +kernel) ⟨by rw [xload, if_neg zc9], by rw [xload, if_neg zc9]; exact x_parts hX hTW⟩
set_option maxHeartbeats 2000000 in
theorem lp_X4_fairerI (l : Launch) {σ : Sg} {w : Int32} {a : Nat} {pf : P3} (x0 : HOK σ 0) (ha : a < (sz (habs σ 0) 2)) (kk : G l (Rm 4) RX4 cX4_fairer 8 (some .int) (pureP (xfairer (habs σ 0) w) σ) 30 [some (vR (7, 0, 0)), some (vI w), some (vI pf.1), some (vI pf.2.1), some (vI pf.2.2), some (vI (nI (a + 1))), none, none] [] σ) : ∀ (k b : Nat) (p : P3), b + k = (sz (habs σ 0) 2) → frI (habs σ 0) a k b p = pf → G l (Rm 4) RX4 cX4_fairer 8 (some .int) (pureP (xfairer (habs σ 0) w) σ) 51 [some (vR (7, 0, 0)), some (vI w), some (vI ((p).1)), some (vI ((p).2.1)), some (vI ((p).2.2)), some (vI (nI a)), some (vI (nI b)), none] [] σ := by
  intro k
  induction k with
  | zero =>
    intro b p hk hd
    have hd : p = pf := hd
    refine g_blk (pc' := 60) (loc' := [some (vR (7, 0, 0)), some (vI w), some (vI ((p).1)), some (vI ((p).2.1)), some (vI ((p).2.2)), some (vI (nI a)), some (vI (nI b)), none]) (st' := [vR (0, 2, 0), vI (nI b)]) (σ' := σ) fl4_ok [(51, .iload 6), (53, .aload_n 0), (54, .getfield 10), (57, .getfield 98)] (by decide +kernel) rfl rfl ?_
    refine g_callVp (0, 2, 0) [] [vI (nI b)] vl_RX4_157 mi_X3_size (ct_size l x0 2 (by decide)) rfl rfl rfl rfl ⟨Nat.le_of_ble_eq_true rfl, Nat.le_of_ble_eq_true rfl⟩ rfl (Nat.le_of_ble_eq_true rfl) (by decide +kernel) ?_
    refine g_icmp_ge (off := 58) (tgt := 121) (by decide +kernel) (by decide) (fun zc63 => ?_) (fun zc63 => ?_)
    · rw [nI_leI (by have := ha_N x0 2 (by decide); have : mst 2 ≤ 30 := mst_le 2; omega) (by have := ha_N x0 2 (by decide); have : mst 2 ≤ 30 := mst_le 2; omega)] at zc63
      refine g_blk (pc' := 30) (loc' := [some (vR (7, 0, 0)), some (vI w), some (vI ((p).1)), some (vI ((p).2.1)), some (vI ((p).2.2)), some (vI ((nI a) + (1 : Int32))), some (vI (nI b)), none]) (st' := []) (σ' := σ) fl4_ok [(121, .iinc 5 1), (124, .goto (-94))] (by decide +kernel) rfl rfl ?_
      rw [nI_1]
      exact g_sub (loc' := [some (vR (7, 0, 0)), some (vI w), some (vI p.1), some (vI p.2.1), some (vI p.2.2), some (vI (nI (a + 1))), none, none]) ⟨Or.inr rfl, Or.inr rfl, Or.inr rfl, Or.inr rfl, Or.inr rfl, Or.inr rfl, Or.inl rfl, Or.inr rfl, trivial⟩ (by rw [← hd] at kk; exact kk)
    · rw [nI_leI (by have := ha_N x0 2 (by decide); have : mst 2 ≤ 30 := mst_le 2; omega) (by have := ha_N x0 2 (by decide); have : mst 2 ≤ 30 := mst_le 2; omega)] at zc63
      exact absurd (by omega) zc63
  | succ k ih =>
    intro b p hk hd
    rw [frI] at hd
    refine g_blk (pc' := 60) (loc' := [some (vR (7, 0, 0)), some (vI w), some (vI ((p).1)), some (vI ((p).2.1)), some (vI ((p).2.2)), some (vI (nI a)), some (vI (nI b)), none]) (st' := [vR (0, 2, 0), vI (nI b)]) (σ' := σ) fl4_ok [(51, .iload 6), (53, .aload_n 0), (54, .getfield 10), (57, .getfield 98)] (by decide +kernel) rfl rfl ?_
    refine g_callVp (0, 2, 0) [] [vI (nI b)] vl_RX4_157 mi_X3_size (ct_size l x0 2 (by decide)) rfl rfl rfl rfl ⟨Nat.le_of_ble_eq_true rfl, Nat.le_of_ble_eq_true rfl⟩ rfl (Nat.le_of_ble_eq_true rfl) (by decide +kernel) ?_
    refine g_icmp_ge (off := 58) (tgt := 121) (by decide +kernel) (by decide) (fun zc63 => ?_) (fun zc63 => ?_)
    · rw [nI_leI (by have := ha_N x0 2 (by decide); have : mst 2 ≤ 30 := mst_le 2; omega) (by have := ha_N x0 2 (by decide); have : mst 2 ≤ 30 := mst_le 2; omega)] at zc63
      exact absurd zc63 (by omega)
    · rw [nI_leI (by have := ha_N x0 2 (by decide); have : mst 2 ≤ 30 := mst_le 2; omega) (by have := ha_N x0 2 (by decide); have : mst 2 ≤ 30 := mst_le 2; omega)] at zc63
      refine g_blk (pc' := 74) (loc' := [some (vR (7, 0, 0)), some (vI w), some (vI ((p).1)), some (vI ((p).2.1)), some (vI ((p).2.2)), some (vI (nI a)), some (vI (nI b)), none]) (st' := [vI (nI b), vI (nI a), vR (2, 0, 0)]) (σ' := σ) fl4_ok [(66, .aload_n 0), (67, .getfield 10), (70, .iload 5), (72, .iload 6)] (by decide +kernel) rfl rfl ?_
      refine g_callVp (2, 0, 0) [vI (nI a), vI (nI b)] [] vl_RX4_121 mi_X1_canExchange (c_X1_canExchange l x0 (nI a) (nI b)) rfl rfl rfl rfl ⟨Nat.le_of_ble_eq_true rfl, Nat.le_of_ble_eq_true rfl⟩ rfl (Nat.le_of_ble_eq_true rfl) (by decide +kernel) ?_
      refine g_if_eq (off := 17) (tgt := 94) (by decide +kernel) (by decide) (fun zc77 => ?_) (fun zc77 => ?_)
      · refine g_blk (pc' := 102) (loc' := [some (vR (7, 0, 0)), some (vI w), some (vI ((p).1)), some (vI ((p).2.1)), some (vI ((p).2.2)), some (vI (nI a)), some (vI (nI b)), some (vI ((p).2.2))]) (st' := [vI ((p).2.2), vI ((p).2.2)]) (σ' := σ) fl4_ok [(94, .iload 4), (96, .istore 7), (98, .iload 7), (100, .iload 4)] (by decide +kernel) rfl rfl ?_
        refine g_icmp_ge (off := 13) (tgt := 115) (by decide +kernel) (by decide) (fun zc102 => ?_) (fun zc102 => ?_)
        · refine g_blk (pc' := 51) (loc' := [some (vR (7, 0, 0)), some (vI w), some (vI ((p).1)), some (vI ((p).2.1)), some (vI ((p).2.2)), some (vI (nI a)), some (vI ((nI b) + (1 : Int32))), some (vI ((p).2.2))]) (st' := []) (σ' := σ) fl4_ok [(115, .iinc 6 1), (118, .goto (-67))] (by decide +kernel) rfl rfl ?_
          have hstep : frStep (habs σ 0) a b p = ((p).1, ((p).2.1, (p).2.2)) := by rw [frStep, if_pos zc77, if_pos zc102]
          have hih := ih (b + 1) (frStep (habs σ 0) a b p) (by omega) hd
          rw [hstep] at hih
          rw [nI_1]
          exact g_sub (loc' := [some (vR (7, 0, 0)), some (vI w), some (vI ((p).1)), some (vI ((p).2.1)), some (vI ((p).2.2)), some (vI (nI a)), some (vI (nI (b + 1))), none]) ⟨Or.inr rfl, Or.inr rfl, Or.inr rfl, Or.inr rfl, Or.inr rfl, Or.inr rfl, Or.inr rfl, Or.inl rfl, trivial⟩ hih
        · refine g_blk (pc' := 51) (loc' := [some (vR (7, 0, 0)), some (vI w), some (vI (nI a)), some (vI (nI b)), some (vI ((p).2.2)), some (vI (nI a)), some (vI ((nI b) + (1 : Int32))), some (vI ((p).2.2))]) (st' := []) (σ' := σ) fl4_ok [(105, .iload 5), (107, .istore_n 2), (108, .iload 6), (110, .istore_n 3), (111, .iload 7), (113, .istore 4), (115, .iinc 6 1), (118, .goto (-67))] (by decide +kernel) rfl rfl ?_
          have hstep : frStep (habs σ 0) a b p = (nI a, (nI b, (p).2.2)) := by rw [frStep, if_pos zc77, if_neg zc102]
          have hih := ih (b + 1) (frStep (habs σ 0) a b p) (by omega) hd
          rw [hstep] at hih
          rw [nI_1]
          exact g_sub (loc' := [some (vR (7, 0, 0)), some (vI w), some (vI (nI a)), some (vI (nI b)), some (vI ((p).2.2)), some (vI (nI a)), some (vI (nI (b + 1))), none]) ⟨Or.inr rfl, Or.inr rfl, Or.inr rfl, Or.inr rfl, Or.inr rfl, Or.inr rfl, Or.inr rfl, Or.inl rfl, trivial⟩ hih
      · refine g_blk (pc' := 88) (loc' := [some (vR (7, 0, 0)), some (vI w), some (vI ((p).1)), some (vI ((p).2.1)), some (vI ((p).2.2)), some (vI (nI a)), some (vI (nI b)), none]) (st' := [vI (nI b), vI (nI a), vR (2, 0, 0)]) (σ' := σ) fl4_ok [(80, .aload_n 0), (81, .getfield 10), (84, .iload 5), (86, .iload 6)] (by decide +kernel) rfl rfl ?_
        refine g_callVp (2, 0, 0) [vI (nI a), vI (nI b)] [] vl_RX4_193 mi_X1_spreadIfExchanged (c_X1_spreadIfExchanged l x0 (nI a) (nI b)) rfl rfl rfl rfl ⟨Nat.le_of_ble_eq_true rfl, Nat.le_of_ble_eq_true rfl⟩ rfl (Nat.le_of_ble_eq_true rfl) (by decide +kernel) ?_
        refine g_blk (pc' := 102) (loc' := [some (vR (7, 0, 0)), some (vI w), some (vI ((p).1)), some (vI ((p).2.1)), some (vI ((p).2.2)), some (vI (nI a)), some (vI (nI b)), some (vI (spreadIfS (habs σ 0) (nI a) (nI b)))]) (st' := [vI ((p).2.2), vI (spreadIfS (habs σ 0) (nI a) (nI b))]) (σ' := σ) fl4_ok [(91, .goto 5), (96, .istore 7), (98, .iload 7), (100, .iload 4)] (by decide +kernel) rfl rfl ?_
        refine g_icmp_ge (off := 13) (tgt := 115) (by decide +kernel) (by decide) (fun zc102 => ?_) (fun zc102 => ?_)
        · refine g_blk (pc' := 51) (loc' := [some (vR (7, 0, 0)), some (vI w), some (vI ((p).1)), some (vI ((p).2.1)), some (vI ((p).2.2)), some (vI (nI a)), some (vI ((nI b) + (1 : Int32))), some (vI (spreadIfS (habs σ 0) (nI a) (nI b)))]) (st' := []) (σ' := σ) fl4_ok [(115, .iinc 6 1), (118, .goto (-67))] (by decide +kernel) rfl rfl ?_
          have hstep : frStep (habs σ 0) a b p = ((p).1, ((p).2.1, (p).2.2)) := by rw [frStep, if_neg zc77, if_pos zc102]
          have hih := ih (b + 1) (frStep (habs σ 0) a b p) (by omega) hd
          rw [hstep] at hih
          rw [nI_1]
          exact g_sub (loc' := [some (vR (7, 0, 0)), some (vI w), some (vI ((p).1)), some (vI ((p).2.1)), some (vI ((p).2.2)), some (vI (nI a)), some (vI (nI (b + 1))), none]) ⟨Or.inr rfl, Or.inr rfl, Or.inr rfl, Or.inr rfl, Or.inr rfl, Or.inr rfl, Or.inr rfl, Or.inl rfl, trivial⟩ hih
        · refine g_blk (pc' := 51) (loc' := [some (vR (7, 0, 0)), some (vI w), some (vI (nI a)), some (vI (nI b)), some (vI (spreadIfS (habs σ 0) (nI a) (nI b))), some (vI (nI a)), some (vI ((nI b) + (1 : Int32))), some (vI (spreadIfS (habs σ 0) (nI a) (nI b)))]) (st' := []) (σ' := σ) fl4_ok [(105, .iload 5), (107, .istore_n 2), (108, .iload 6), (110, .istore_n 3), (111, .iload 7), (113, .istore 4), (115, .iinc 6 1), (118, .goto (-67))] (by decide +kernel) rfl rfl ?_
          have hstep : frStep (habs σ 0) a b p = (nI a, (nI b, spreadIfS (habs σ 0) (nI a) (nI b))) := by rw [frStep, if_neg zc77, if_neg zc102]
          have hih := ih (b + 1) (frStep (habs σ 0) a b p) (by omega) hd
          rw [hstep] at hih
          rw [nI_1]
          exact g_sub (loc' := [some (vR (7, 0, 0)), some (vI w), some (vI (nI a)), some (vI (nI b)), some (vI (spreadIfS (habs σ 0) (nI a) (nI b))), some (vI (nI a)), some (vI (nI (b + 1))), none]) ⟨Or.inr rfl, Or.inr rfl, Or.inr rfl, Or.inr rfl, Or.inr rfl, Or.inr rfl, Or.inr rfl, Or.inl rfl, trivial⟩ hih
set_option maxHeartbeats 2000000 in
theorem lp_X4_fairer (l : Launch) {σ : Sg} {w : Int32} (x0 : HOK σ 0) (hw : ¬ isInS w 0 2 = 0) : ∀ (k a : Nat) (p : P3), a + k = (sz (habs σ 0) 2) → frO (habs σ 0) (sz (habs σ 0) 2) k a p = frS (habs σ 0) → G l (Rm 4) RX4 cX4_fairer 8 (some .int) (pureP (xfairer (habs σ 0) w) σ) 30 [some (vR (7, 0, 0)), some (vI w), some (vI ((p).1)), some (vI ((p).2.1)), some (vI ((p).2.2)), some (vI (nI a)), none, none] [] σ := by
  intro k
  induction k with
  | zero =>
    intro a p hk hd
    have hd : frS (habs σ 0) = p := hd.symm
    refine g_blk (pc' := 39) (loc' := [some (vR (7, 0, 0)), some (vI w), some (vI ((p).1)), some (vI ((p).2.1)), some (vI ((p).2.2)), some (vI (nI a)), none, none]) (st' := [vR (0, 2, 0), vI (nI a)]) (σ' := σ) fl4_ok [(30, .iload 5), (32, .aload_n 0), (33, .getfield 10), (36, .getfield 98)] (by decide +kernel) rfl rfl ?_
    refine g_callVp (0, 2, 0) [] [vI (nI a)] vl_RX4_157 mi_X3_size (ct_size l x0 2 (by decide)) rfl rfl rfl rfl ⟨Nat.le_of_ble_eq_true rfl, Nat.le_of_ble_eq_true rfl⟩ rfl (Nat.le_of_ble_eq_true rfl) (by decide +kernel) ?_
    refine g_icmp_ge (off := 85) (tgt := 127) (by decide +kernel) (by decide) (fun zc42 => ?_) (fun zc42 => ?_)
    · rw [nI_leI (by have := ha_N x0 2 (by decide); have : mst 2 ≤ 30 := mst_le 2; omega) (by have := ha_N x0 2 (by decide); have : mst 2 ≤ 30 := mst_le 2; omega)] at zc42
      refine g_blk (pc' := 130) (loc' := [some (vR (7, 0, 0)), some (vI w), some (vI ((p).1)), some (vI ((p).2.1)), some (vI ((p).2.2)), some (vI (nI a)), none, none]) (st' := [vI (-6 : Int32), vI ((p).1)]) (σ' := σ) fl4_ok [(127, .iload_n 2), (128, .bipush (-6))] (by decide +kernel) rfl rfl ?_
      refine g_icmp_ne (off := 6) (tgt := 136) (by decide +kernel) (by decide) (fun zc130 => ?_) (fun zc130 => ?_)
      · refine g_blk (pc' := 137) (loc' := [some (vR (7, 0, 0)), some (vI w), some (vI ((p).1)), some (vI ((p).2.1)), some (vI ((p).2.2)), some (vI (nI a)), none, none]) (st' := [vI w]) (σ' := σ) fl4_ok [(136, .iload_n 1)] (by decide +kernel) rfl rfl ?_
        by_cases zq0 : w = 0
        · refine g_look (dflt := 31) (ps := #[(0, 27), (1, 29)]) (len := 27) (off := 27) (tgt := 164) (by decide +kernel) (by decide) (by rw [zq0]; decide) (by decide) ?_
          refine g_blk (pc' := 165) (loc' := [some (vR (7, 0, 0)), some (vI w), some (vI ((p).1)), some (vI ((p).2.1)), some (vI ((p).2.2)), some (vI (nI a)), none, none]) (st' := [vI ((p).1)]) (σ' := σ) fl4_ok [(164, .iload_n 2)] (by decide +kernel) rfl rfl ?_
          exact g_iret (by decide +kernel) (by rw [xfairer, if_pos hw, hd, if_pos zc130, if_pos zq0]; exact ⟨rfl, rfl⟩)
        · by_cases zq1 : w = 1
          · refine g_look (dflt := 31) (ps := #[(0, 27), (1, 29)]) (len := 27) (off := 29) (tgt := 166) (by decide +kernel) (by decide) (by rw [zq1]; decide) (by decide) ?_
            refine g_blk (pc' := 167) (loc' := [some (vR (7, 0, 0)), some (vI w), some (vI ((p).1)), some (vI ((p).2.1)), some (vI ((p).2.2)), some (vI (nI a)), none, none]) (st' := [vI ((p).2.1)]) (σ' := σ) fl4_ok [(166, .iload_n 3)] (by decide +kernel) rfl rfl ?_
            exact g_iret (by decide +kernel) (by rw [xfairer, if_pos hw, hd, if_pos zc130, if_neg zq0, if_pos zq1]; exact ⟨rfl, rfl⟩)
          · refine g_look (dflt := 31) (ps := #[(0, 27), (1, 29)]) (len := 27) (off := 31) (tgt := 168) (by decide +kernel) (by decide) (by show Op.lookupswitch.offset [(0, 27), (1, 29)] 31 w.toInt = 31; rw [lv_osw (a := 0) zq0 rfl, lv_osw (a := 1) zq1 rfl]; rfl) (by decide) ?_
            refine g_blk (pc' := 170) (loc' := [some (vR (7, 0, 0)), some (vI w), some (vI ((p).1)), some (vI ((p).2.1)), some (vI ((p).2.2)), some (vI (nI a)), none, none]) (st' := [vI ((p).2.2)]) (σ' := σ) fl4_ok [(168, .iload 4)] (by decide +kernel) rfl rfl ?_
            exact g_iret (by decide +kernel) (by rw [xfairer, if_pos hw, hd, if_pos zc130, if_neg zq0, if_neg zq1]; exact ⟨rfl, rfl⟩)
      · refine g_blk (pc' := 135) (loc' := [some (vR (7, 0, 0)), some (vI w), some (vI ((p).1)), some (vI ((p).2.1)), some (vI ((p).2.2)), some (vI (nI a)), none, none]) (st' := [vI (-6 : Int32)]) (σ' := σ) fl4_ok [(133, .bipush (-6))] (by decide +kernel) rfl rfl ?_
        exact g_iret (by decide +kernel) (by rw [xfairer, if_pos hw, hd, if_neg (not_not_intro zc130)]; exact ⟨rfl, rfl⟩)
    · rw [nI_leI (by have := ha_N x0 2 (by decide); have : mst 2 ≤ 30 := mst_le 2; omega) (by have := ha_N x0 2 (by decide); have : mst 2 ≤ 30 := mst_le 2; omega)] at zc42
      exact absurd (by omega) zc42
  | succ k ih =>
    intro a p hk hd
    rw [frO] at hd
    refine g_blk (pc' := 39) (loc' := [some (vR (7, 0, 0)), some (vI w), some (vI ((p).1)), some (vI ((p).2.1)), some (vI ((p).2.2)), some (vI (nI a)), none, none]) (st' := [vR (0, 2, 0), vI (nI a)]) (σ' := σ) fl4_ok [(30, .iload 5), (32, .aload_n 0), (33, .getfield 10), (36, .getfield 98)] (by decide +kernel) rfl rfl ?_
    refine g_callVp (0, 2, 0) [] [vI (nI a)] vl_RX4_157 mi_X3_size (ct_size l x0 2 (by decide)) rfl rfl rfl rfl ⟨Nat.le_of_ble_eq_true rfl, Nat.le_of_ble_eq_true rfl⟩ rfl (Nat.le_of_ble_eq_true rfl) (by decide +kernel) ?_
    refine g_icmp_ge (off := 85) (tgt := 127) (by decide +kernel) (by decide) (fun zc42 => ?_) (fun zc42 => ?_)
    · rw [nI_leI (by have := ha_N x0 2 (by decide); have : mst 2 ≤ 30 := mst_le 2; omega) (by have := ha_N x0 2 (by decide); have : mst 2 ≤ 30 := mst_le 2; omega)] at zc42
      exact absurd zc42 (by omega)
    · rw [nI_leI (by have := ha_N x0 2 (by decide); have : mst 2 ≤ 30 := mst_le 2; omega) (by have := ha_N x0 2 (by decide); have : mst 2 ≤ 30 := mst_le 2; omega)] at zc42
      refine g_blk (pc' := 51) (loc' := [some (vR (7, 0, 0)), some (vI w), some (vI ((p).1)), some (vI ((p).2.1)), some (vI ((p).2.2)), some (vI (nI a)), some (vI ((nI a) + (1 : Int32))), none]) (st' := []) (σ' := σ) fl4_ok [(45, .iload 5), (47, .iconst 1), (48, .iadd), (49, .istore 6)] (by decide +kernel) rfl rfl ?_
      rw [nI_1]
      refine g_sub (loc' := [some (vR (7, 0, 0)), some (vI w), some (vI ((p).1)), some (vI ((p).2.1)), some (vI ((p).2.2)), some (vI (nI a)), some (vI (nI (a + 1))), none]) ⟨Or.inr rfl, Or.inr rfl, Or.inr rfl, Or.inr rfl, Or.inr rfl, Or.inr rfl, Or.inr rfl, Or.inr rfl, trivial⟩ ?_
      exact lp_X4_fairerI l x0 (by omega) (ih (a + 1) (frI (habs σ 0) a ((sz (habs σ 0) 2) - (a + 1)) (a + 1) p) (by omega) hd) ((sz (habs σ 0) 2) - (a + 1)) (a + 1) p (by omega) rfl
set_option maxHeartbeats 2000000 in
theorem c_X4_fairer (l : Launch) {σ : Sg} (hX : XOK σ) (w : Int32)  : Con l 4 yX4_fairer cX4_fairer 8 (some .int) [vR (7, 0, 0), vI w] σ (pureP (xfairer (habs σ 0) w) σ) := by
  refine con_of pn_X4_fairer (Nat.le_of_ble_eq_true rfl) (fun hPK hok => ?_)
  show G l (Rm 4) RX4 cX4_fairer 8 (some .int) _ 0 [some (vR (7, 0, 0)), some (vI w), none, none, none, none, none, none] [] σ
  obtain ⟨x0, x1, x2, x3, x4, x5, x6⟩ := id hX
  refine g_blk (pc' := 3) (loc' := [some (vR (7, 0, 0)), some (vI w), none, none, none, none, none, none]) (st' := [vI (2 : Int32), vI (0 : Int32), vI w]) (σ' := σ) fl4_ok [(0, .iload_n 1), (1, .iconst 0), (2, .iconst 2)] (by decide +kernel) rfl rfl ?_
  refine g_callSp [vI w, vI (0 : Int32), vI (2 : Int32)] [] sl_RX4_62 mi_X4_isIn (c_X4_isIn l w (0 : Int32) (2 : Int32)) rfl ⟨Nat.le_of_ble_eq_true rfl, Nat.le_of_ble_eq_true rfl⟩ rfl (Nat.le_of_ble_eq_true rfl) (by decide +kernel) ?_
  refine g_if_ne (off := 6) (tgt := 12) (by decide +kernel) (by decide) (fun zc6 => ?_) (fun zc6 => ?_)
  · refine g_blk (pc' := 22) (loc' := [some (vR (7, 0, 0)), some (vI w), some (vI (-6 : Int32)), some (vI (-6 : Int32)), none, none, none, none]) (st' := [vR (2, 0, 0)]) (σ' := σ) fl4_ok [(12, .bipush (-6)), (14, .istore_n 2), (15, .bipush (-6)), (17, .istore_n 3), (18, .aload_n 0), (19, .getfield 10)] (by decide +kernel) rfl rfl ?_
    refine g_callVp (2, 0, 0) [] [] vl_RX4_172 mi_X1_plannedSpread (c_X1_plannedSpread l x0) rfl rfl rfl rfl ⟨Nat.le_of_ble_eq_true rfl, Nat.le_of_ble_eq_true rfl⟩ rfl (Nat.le_of_ble_eq_true rfl) (by decide +kernel) ?_
    refine g_blk (pc' := 30) (loc' := [some (vR (7, 0, 0)), some (vI w), some (vI (-6 : Int32)), some (vI (-6 : Int32)), some (vI (spreadS (habs σ 0) 1 (-6) (-6) 0)), some (vI (0 : Int32)), none, none]) (st' := []) (σ' := σ) fl4_ok [(25, .istore 4), (27, .iconst 0), (28, .istore 5)] (by decide +kernel) rfl rfl ?_
    refine g_sub (loc' := [some (vR (7, 0, 0)), some (vI w), some (vI ((((-6, (-6, spreadS (habs σ 0) 1 (-6) (-6) 0)) : P3)).1)), some (vI ((((-6, (-6, spreadS (habs σ 0) 1 (-6) (-6) 0)) : P3)).2.1)), some (vI ((((-6, (-6, spreadS (habs σ 0) 1 (-6) (-6) 0)) : P3)).2.2)), some (vI (nI 0)), none, none]) ⟨Or.inr rfl, Or.inr rfl, Or.inr rfl, Or.inr rfl, Or.inr rfl, Or.inr rfl, Or.inr rfl, Or.inr rfl, trivial⟩ ?_
    exact lp_X4_fairer l x0 zc6 (sz (habs σ 0) 2) 0 _ (by omega) rfl
  · refine g_blk (pc' := 11) (loc' := [some (vR (7, 0, 0)), some (vI w), none, none, none, none, none, none]) (st' := [vI (-2 : Int32)]) (σ' := σ) fl4_ok [(9, .bipush (-2))] (by decide +kernel) rfl rfl ?_
    exact g_iret (by decide +kernel) (by rw [xfairer, if_neg (not_not_intro zc6)]; exact ⟨rfl, rfl⟩)
set_option maxHeartbeats 2000000 in
theorem lp_X4_fcE (l : Launch) {σ : Sg} {d : Int32} (w : Int32) (hH0 : HOK σ 0) (hH1 : HOK σ 1) : G l (Rm 6) RX4 cX4_forecast 5 (some .int) (pureP (fcA (habs σ 0) (habs σ 1, d) w) σ) 106 [some (vR (7, 0, 0)), none, some (vI w), some (vI d), none] [] σ := by
  refine g_blk (pc' := 107) (loc' := [some (vR (7, 0, 0)), none, some (vI w), some (vI d), none]) (st' := [vI w]) (σ' := σ) fl4_ok [(106, .iload_n 2)] (by decide +kernel) rfl rfl ?_
  rcases pk_ix w (n := 3) (by decide) with zq | zq | ⟨j, hj, rfl⟩
  · refine g_tabO (dflt := 51) (lo := 0) (hi := 2) (offs := #[25, 33, 49]) (len := 25) (tgt := 158) (by decide +kernel) (Or.inl (tab_lo zq)) (by decide) ?_
    refine g_blk (pc' := 162) (loc' := [some (vR (7, 0, 0)), none, some (vI w), some (vI d), none]) (st' := [vR (2, 0, 1)]) (σ' := σ) fl4_ok [(158, .aload_n 0), (159, .getfield 16)] (by decide +kernel) rfl rfl ?_
    refine g_callVp (2, 0, 1) [] [] vl_RX4_190 mi_X1_greatestDirt (c_X1_greatestDirt l hH1) rfl rfl rfl rfl ⟨Nat.le_of_ble_eq_true rfl, Nat.le_of_ble_eq_true rfl⟩ rfl (Nat.le_of_ble_eq_true rfl) (by decide +kernel) ?_
    exact g_iret (by decide +kernel) (by rw [fcA, sw_lo zq]; exact ⟨rfl, rfl⟩)
  · refine g_tabO (dflt := 51) (lo := 0) (hi := 2) (offs := #[25, 33, 49]) (len := 25) (tgt := 158) (by decide +kernel) (Or.inr (tab_hi 2 (by decide) zq)) (by decide) ?_
    refine g_blk (pc' := 162) (loc' := [some (vR (7, 0, 0)), none, some (vI w), some (vI d), none]) (st' := [vR (2, 0, 1)]) (σ' := σ) fl4_ok [(158, .aload_n 0), (159, .getfield 16)] (by decide +kernel) rfl rfl ?_
    refine g_callVp (2, 0, 1) [] [] vl_RX4_190 mi_X1_greatestDirt (c_X1_greatestDirt l hH1) rfl rfl rfl rfl ⟨Nat.le_of_ble_eq_true rfl, Nat.le_of_ble_eq_true rfl⟩ rfl (Nat.le_of_ble_eq_true rfl) (by decide +kernel) ?_
    exact g_iret (by decide +kernel) (by rw [fcA, sw_hi zq]; exact ⟨rfl, rfl⟩)
  · match j, hj with
    | 0, hj =>
      refine g_tabI (dflt := 51) (lo := 0) (hi := 2) (offs := #[25, 33, 49]) (len := 25) (off := 25) (tgt := 132) (by decide +kernel) (by decide) (by decide) rfl (by decide) ?_
      refine g_blk (pc' := 136) (loc' := [some (vR (7, 0, 0)), none, some (vI (nI 0)), some (vI d), none]) (st' := [vR (2, 0, 1)]) (σ' := σ) fl4_ok [(132, .aload_n 0), (133, .getfield 16)] (by decide +kernel) rfl rfl ?_
      refine g_callVp (2, 0, 1) [] [] vl_RX4_169 mi_X1_spread (c_X1_spread l hH1) rfl rfl rfl rfl ⟨Nat.le_of_ble_eq_true rfl, Nat.le_of_ble_eq_true rfl⟩ rfl (Nat.le_of_ble_eq_true rfl) (by decide +kernel) ?_
      exact g_iret (by decide +kernel) (by rw [fcA, sw_in (by decide) hj]; exact ⟨rfl, rfl⟩)
    | 1, hj =>
      refine g_tabI (dflt := 51) (lo := 0) (hi := 2) (offs := #[25, 33, 49]) (len := 25) (off := 33) (tgt := 140) (by decide +kernel) (by decide) (by decide) rfl (by decide) ?_
      refine g_blk (pc' := 155) (loc' := [some (vR (7, 0, 0)), none, some (vI (nI 1)), some (vI d), none]) (st' := [vI (((habs σ 1).2 7) - ((habs σ 0).2 7))]) (σ' := σ) fl4_ok [(140, .aload_n 0), (141, .getfield 16), (144, .getfield 163), (147, .aload_n 0), (148, .getfield 10), (151, .getfield 163), (154, .isub)] (by decide +kernel) rfl rfl ?_
      exact g_iret (by decide +kernel) (by rw [fcA, sw_in (by decide) hj]; exact ⟨rfl, rfl⟩)
    | 2, hj =>
      refine g_tabI (dflt := 51) (lo := 0) (hi := 2) (offs := #[25, 33, 49]) (len := 25) (off := 49) (tgt := 156) (by decide +kernel) (by decide) (by decide) rfl (by decide) ?_
      refine g_blk (pc' := 157) (loc' := [some (vR (7, 0, 0)), none, some (vI (nI 2)), some (vI d), none]) (st' := [vI d]) (σ' := σ) fl4_ok [(156, .iload_n 3)] (by decide +kernel) rfl rfl ?_
      exact g_iret (by decide +kernel) (by rw [fcA, sw_in (by decide) hj]; exact ⟨rfl, rfl⟩)
    | j + 3, hj => exact absurd hj (by omega)
set_option maxHeartbeats 2000000 in
theorem lp_X4_fc (l : Launch) {σ0 : Sg} {m : Nat} {S0 : HA} {Qf : HA × Int32} (w : Int32) (hm : m ≤ 60) : ∀ (k i : Nat) (d : Int32) (σ : Sg), HOK σ 1 → HOK σ 0 → HInv (habs σ 1) → i + k = m → fcF k (habs σ 1) d = Qf → FrH 1 σ0 σ → habs σ 0 = S0 → G l (Rm 6) RX4 cX4_forecast 5 (some .int) (fun o σ' => o = some (vI (fcA S0 Qf w)) ∧ HOK σ' 1 ∧ FrH 1 σ0 σ') 38 [some (vR (7, 0, 0)), some (vI (nI m)), some (vI w), some (vI d), some (vI (nI i))] [] σ := by
  intro k
  induction k with
  | zero =>
    intro i d σ hH1 hH0 hI hk hd hF hS0
    have hd : (habs σ 1, d) = Qf := hd
    refine g_blk (pc' := 41) (loc' := [some (vR (7, 0, 0)), some (vI (nI m)), some (vI w), some (vI d), some (vI (nI i))]) (st' := [vI (nI m), vI (nI i)]) (σ' := σ) fl4_ok [(38, .iload 4), (40, .iload_n 1)] (by decide +kernel) rfl rfl ?_
    refine g_icmp_ge (off := 65) (tgt := 106) (by decide +kernel) (by decide) (fun zc41 => ?_) (fun zc41 => ?_)
    · rw [nI_leI (by omega) (by omega)] at zc41
      refine g_sub (loc' := [some (vR (7, 0, 0)), none, some (vI w), some (vI d), none]) ⟨Or.inr rfl, Or.inl rfl, Or.inr rfl, Or.inr rfl, Or.inl rfl, trivial⟩ ?_
      exact g_mono (lp_X4_fcE l w hH0 hH1) (fun o σ' hp => by rw [hp.1, hp.2, ← hd, hS0]; exact ⟨rfl, hH1, hF⟩)
    · rw [nI_leI (by omega) (by omega)] at zc41
      exact absurd (by omega) zc41
  | succ k ih =>
    intro i d σ hH1 hH0 hI hk hd hF hS0
    refine g_blk (pc' := 41) (loc' := [some (vR (7, 0, 0)), some (vI (nI m)), some (vI w), some (vI d), some (vI (nI i))]) (st' := [vI (nI m), vI (nI i)]) (σ' := σ) fl4_ok [(38, .iload 4), (40, .iload_n 1)] (by decide +kernel) rfl rfl ?_
    refine g_icmp_ge (off := 65) (tgt := 106) (by decide +kernel) (by decide) (fun zc41 => ?_) (fun zc41 => ?_)
    · rw [nI_leI (by omega) (by omega)] at zc41
      exact absurd zc41 (by omega)
    · rw [nI_leI (by omega) (by omega)] at zc41
      refine g_blk (pc' := 54) (loc' := [some (vR (7, 0, 0)), some (vI (nI m)), some (vI w), some (vI d), some (vI (nI i))]) (st' := [vI (999 : Int32), vI ((habs σ 1).2 5)]) (σ' := σ) fl4_ok [(44, .aload_n 0), (45, .getfield 16), (48, .getfield 114), (51, .sipush 999)] (by decide +kernel) rfl rfl ?_
      refine g_icmp_ge (off := 52) (tgt := 106) (by decide +kernel) (by decide) (fun zc54 => ?_) (fun zc54 => ?_)
      · rw [fcF, if_pos zc54] at hd
        refine g_sub (loc' := [some (vR (7, 0, 0)), none, some (vI w), some (vI d), none]) ⟨Or.inr rfl, Or.inl rfl, Or.inr rfl, Or.inr rfl, Or.inl rfl, trivial⟩ ?_
        exact g_mono (lp_X4_fcE l w hH0 hH1) (fun o σ' hp => by rw [hp.1, hp.2, ← hd, hS0]; exact ⟨rfl, hH1, hF⟩)
      · refine g_blk (pc' := 64) (loc' := [some (vR (7, 0, 0)), some (vI (nI m)), some (vI w), some (vI d), some (vI (nI i))]) (st' := [vI ((habs σ 1).2 6)]) (σ' := σ) fl4_ok [(57, .aload_n 0), (58, .getfield 16), (61, .getfield 90)] (by decide +kernel) rfl rfl ?_
        refine g_if_ne (off := 11) (tgt := 75) (by decide +kernel) (by decide) (fun zc64 => ?_) (fun zc64 => ?_)
        · refine g_blk (pc' := 80) (loc' := [some (vR (7, 0, 0)), some (vI (nI m)), some (vI w), some (vI d), some (vI (nI i))]) (st' := [vR (2, 0, 1), vI d]) (σ' := σ) fl4_ok [(75, .iload_n 3), (76, .aload_n 0), (77, .getfield 16)] (by decide +kernel) rfl rfl ?_
          refine g_callVp (2, 0, 1) [] [vI d] vl_RX4_184 mi_X1_countOpenDeepTasks (c_X1_countOpenDeepTasks l hH1) rfl rfl rfl rfl ⟨Nat.le_of_ble_eq_true rfl, Nat.le_of_ble_eq_true rfl⟩ rfl (Nat.le_of_ble_eq_true rfl) (by decide +kernel) ?_
          refine g_blk (pc' := 89) (loc' := [some (vR (7, 0, 0)), some (vI (nI m)), some (vI w), some (vI (d + (cntDL (habs σ 1) (sz (habs σ 1) 2)))), some (vI (nI i))]) (st' := [vR (2, 0, 1)]) (σ' := σ) fl4_ok [(83, .iadd), (84, .istore_n 3), (85, .aload_n 0), (86, .getfield 16)] (by decide +kernel) rfl rfl ?_
          refine g_callV (2, 0, 1) [] [] vl_RX4_187 mi_X1_finishOpenTasks (c_X1_finishOpenTasks l hH1) rfl rfl rfl rfl ⟨Nat.le_of_ble_eq_true rfl, Nat.le_of_ble_eq_true rfl⟩ rfl (Nat.le_of_ble_eq_true rfl) (by decide +kernel) (fun o σ1 hPσ1 => ?_)
          obtain ⟨rfl, hWσ1⟩ := hPσ1
          refine g_blk (pc' := 96) (loc' := [some (vR (7, 0, 0)), some (vI (nI m)), some (vI w), some (vI (d + (cntDL (habs σ 1) (sz (habs σ 1) 2)))), some (vI (nI i))]) (st' := [vR (2, 0, 1)]) (σ' := σ1) fl4_ok [(92, .aload_n 0), (93, .getfield 16)] (by decide +kernel) rfl rfl ?_
          refine g_callV (2, 0, 1) [] [] vl_RX4_118 mi_X1_endWeek (c_X1_endWeek l hWσ1.2.1) rfl rfl rfl rfl ⟨Nat.le_of_ble_eq_true rfl, Nat.le_of_ble_eq_true rfl⟩ rfl (Nat.le_of_ble_eq_true rfl) (by decide +kernel) (fun o σ2 hPσ2 => ?_)
          obtain ⟨rfl, hWσ2⟩ := hPσ2
          refine g_blk (pc' := 38) (loc' := [some (vR (7, 0, 0)), some (vI (nI m)), some (vI w), some (vI (d + (cntDL (habs σ 1) (sz (habs σ 1) 2)))), some (vI ((nI i) + (1 : Int32)))]) (st' := []) (σ' := σ2) fl4_ok [(99, .pop), (100, .iinc 4 1), (103, .goto (-65))] (by decide +kernel) rfl rfl ?_
          rw [fcF, if_neg zc54, if_pos zc64] at hd
          rw [nI_1]
          have hoth := hw_other (h2 := 0) (by decide) ((hWσ1.2.2).tr hWσ2.2.2)
          exact ih (i + 1) _ σ2 hWσ2.2.1 (hoth.2 hH0) (by rw [hWσ2.1, hWσ1.1]; exact inv_end _) (by omega) (by rw [hWσ2.1, hWσ1.1]; exact hd) (hF.tr ((hWσ1.2.2).tr hWσ2.2.2)) (hoth.1.trans hS0)
        · refine g_blk (pc' := 71) (loc' := [some (vR (7, 0, 0)), some (vI (nI m)), some (vI w), some (vI d), some (vI (nI i))]) (st' := [vR (2, 0, 1)]) (σ' := σ) fl4_ok [(67, .aload_n 0), (68, .getfield 16)] (by decide +kernel) rfl rfl ?_
          refine g_callV (2, 0, 1) [] [] vl_RX4_94 mi_X1_planWeek (c_X1_planWeek l hH1 (hI.2 zc64)) rfl rfl rfl rfl ⟨Nat.le_of_ble_eq_true rfl, Nat.le_of_ble_eq_true rfl⟩ rfl (Nat.le_of_ble_eq_true rfl) (by decide +kernel) (fun o σ3 hPσ3 => ?_)
          obtain ⟨rfl, hWσ3⟩ := hPσ3
          refine g_blk (pc' := 80) (loc' := [some (vR (7, 0, 0)), some (vI (nI m)), some (vI w), some (vI d), some (vI (nI i))]) (st' := [vR (2, 0, 1), vI d]) (σ' := σ3) fl4_ok [(74, .pop), (75, .iload_n 3), (76, .aload_n 0), (77, .getfield 16)] (by decide +kernel) rfl rfl ?_
          refine g_callVp (2, 0, 1) [] [vI d] vl_RX4_184 mi_X1_countOpenDeepTasks (c_X1_countOpenDeepTasks l hWσ3.2.1) rfl rfl rfl rfl ⟨Nat.le_of_ble_eq_true rfl, Nat.le_of_ble_eq_true rfl⟩ rfl (Nat.le_of_ble_eq_true rfl) (by decide +kernel) ?_
          refine g_blk (pc' := 89) (loc' := [some (vR (7, 0, 0)), some (vI (nI m)), some (vI w), some (vI (d + (cntDL (habs σ3 1) (sz (habs σ3 1) 2)))), some (vI (nI i))]) (st' := [vR (2, 0, 1)]) (σ' := σ3) fl4_ok [(83, .iadd), (84, .istore_n 3), (85, .aload_n 0), (86, .getfield 16)] (by decide +kernel) rfl rfl ?_
          refine g_callV (2, 0, 1) [] [] vl_RX4_187 mi_X1_finishOpenTasks (c_X1_finishOpenTasks l hWσ3.2.1) rfl rfl rfl rfl ⟨Nat.le_of_ble_eq_true rfl, Nat.le_of_ble_eq_true rfl⟩ rfl (Nat.le_of_ble_eq_true rfl) (by decide +kernel) (fun o σ4 hPσ4 => ?_)
          obtain ⟨rfl, hWσ4⟩ := hPσ4
          refine g_blk (pc' := 96) (loc' := [some (vR (7, 0, 0)), some (vI (nI m)), some (vI w), some (vI (d + (cntDL (habs σ3 1) (sz (habs σ3 1) 2)))), some (vI (nI i))]) (st' := [vR (2, 0, 1)]) (σ' := σ4) fl4_ok [(92, .aload_n 0), (93, .getfield 16)] (by decide +kernel) rfl rfl ?_
          refine g_callV (2, 0, 1) [] [] vl_RX4_118 mi_X1_endWeek (c_X1_endWeek l hWσ4.2.1) rfl rfl rfl rfl ⟨Nat.le_of_ble_eq_true rfl, Nat.le_of_ble_eq_true rfl⟩ rfl (Nat.le_of_ble_eq_true rfl) (by decide +kernel) (fun o σ5 hPσ5 => ?_)
          obtain ⟨rfl, hWσ5⟩ := hPσ5
          refine g_blk (pc' := 38) (loc' := [some (vR (7, 0, 0)), some (vI (nI m)), some (vI w), some (vI (d + (cntDL (habs σ3 1) (sz (habs σ3 1) 2)))), some (vI ((nI i) + (1 : Int32)))]) (st' := []) (σ' := σ5) fl4_ok [(99, .pop), (100, .iinc 4 1), (103, .goto (-65))] (by decide +kernel) rfl rfl ?_
          rw [fcF, if_neg zc54, if_neg (not_not_intro zc64)] at hd
          rw [hWσ3.1]
          rw [nI_1]
          have hoth := hw_other (h2 := 0) (by decide) (((hWσ3.2.2).tr hWσ4.2.2).tr hWσ5.2.2)
          exact ih (i + 1) _ σ5 hWσ5.2.1 (hoth.2 hH0) (by rw [hWσ5.1, hWσ4.1, hWσ3.1]; exact inv_end _) (by omega) (by rw [hWσ5.1, hWσ4.1, hWσ3.1]; exact hd) (hF.tr (((hWσ3.2.2).tr hWσ4.2.2).tr hWσ5.2.2)) (hoth.1.trans hS0)
set_option maxHeartbeats 2000000 in
theorem c_X4_forecast (l : Launch) {σ : Sg} (n w : Int32) (hX : XOK σ)  : Con l 6 yX4_forecast cX4_forecast 5 (some .int) [vR (7, 0, 0), vI n, vI w] σ (fun o σ' => o = some (vI ((xforecast (habs σ 0) n w, ((habs σ 0, (hist σ, pv σ)) : XS))).1) ∧ XW ((xforecast (habs σ 0) n w, ((habs σ 0, (hist σ, pv σ)) : XS))).2 σ σ') := by
  refine con_of pn_X4_forecast (Nat.le_of_ble_eq_true rfl) (fun hPK hok => ?_)
  show G l (Rm 6) RX4 cX4_forecast 5 (some .int) _ 0 [some (vR (7, 0, 0)), some (vI n), some (vI w), none, none] [] σ
  obtain ⟨x0, x1, x2, x3, x4, x5, x6⟩ := id hX
  refine g_blk (pc' := 4) (loc' := [some (vR (7, 0, 0)), some (vI n), some (vI w), none, none]) (st' := [vI (60 : Int32), vI (0 : Int32), vI n]) (σ' := σ) fl4_ok [(0, .iload_n 1), (1, .iconst 0), (2, .bipush 60)] (by decide +kernel) rfl rfl ?_
  refine g_callSp [vI n, vI (0 : Int32), vI (60 : Int32)] [] sl_RX4_62 mi_X4_isIn (c_X4_isIn l n (0 : Int32) (60 : Int32)) rfl ⟨Nat.le_of_ble_eq_true rfl, Nat.le_of_ble_eq_true rfl⟩ rfl (Nat.le_of_ble_eq_true rfl) (by decide +kernel) ?_
  refine g_if_eq (off := 12) (tgt := 19) (by decide +kernel) (by decide) (fun zc7 => ?_) (fun zc7 => ?_)
  · refine g_blk (pc' := 21) (loc' := [some (vR (7, 0, 0)), some (vI n), some (vI w), none, none]) (st' := [vI (-2 : Int32)]) (σ' := σ) fl4_ok [(19, .bipush (-2))] (by decide +kernel) rfl rfl ?_
    exact g_iret (by decide +kernel) ⟨by show some _ = some (vI (xforecast _ _ _)); rw [xforecast, if_pos zc7], XW.rf hX⟩
  · refine g_blk (pc' := 13) (loc' := [some (vR (7, 0, 0)), some (vI n), some (vI w), none, none]) (st' := [vI (3 : Int32), vI (0 : Int32), vI w]) (σ' := σ) fl4_ok [(10, .iload_n 2), (11, .iconst 0), (12, .iconst 3)] (by decide +kernel) rfl rfl ?_
    refine g_callSp [vI w, vI (0 : Int32), vI (3 : Int32)] [] sl_RX4_62 mi_X4_isIn (c_X4_isIn l w (0 : Int32) (3 : Int32)) rfl ⟨Nat.le_of_ble_eq_true rfl, Nat.le_of_ble_eq_true rfl⟩ rfl (Nat.le_of_ble_eq_true rfl) (by decide +kernel) ?_
    refine g_if_ne (off := 6) (tgt := 22) (by decide +kernel) (by decide) (fun zc16 => ?_) (fun zc16 => ?_)
    · refine g_blk (pc' := 30) (loc' := [some (vR (7, 0, 0)), some (vI n), some (vI w), none, none]) (st' := [vR (2, 0, 0), vR (2, 0, 1)]) (σ' := σ) fl4_ok [(22, .aload_n 0), (23, .getfield 16), (26, .aload_n 0), (27, .getfield 10)] (by decide +kernel) rfl rfl ?_
      refine g_callV (2, 0, 1) [vR (2, 0, 0)] [] vl_RX4_181 mi_X1_copyFrom (c_X1_copyFrom l x1 x0 (by decide) x5.1) rfl rfl rfl rfl ⟨Nat.le_of_ble_eq_true rfl, Nat.le_of_ble_eq_true rfl⟩ rfl (Nat.le_of_ble_eq_true rfl) (by decide +kernel) (fun o σ1 hPσ1 => ?_)
      obtain ⟨rfl, hWσ1⟩ := hPσ1
      refine g_blk (pc' := 38) (loc' := [some (vR (7, 0, 0)), some (vI n), some (vI w), some (vI (0 : Int32)), some (vI (0 : Int32))]) (st' := []) (σ' := σ1) fl4_ok [(33, .iconst 0), (34, .istore_n 3), (35, .iconst 0), (36, .istore 4)] (by decide +kernel) rfl rfl ?_
      obtain ⟨m, hm, rfl⟩ := isIn_ex (n := 60) (by decide) zc7
      have hoth := hw_other (h2 := 0) (by decide) hWσ1.2.2
      refine g_sub (loc' := [some (vR (7, 0, 0)), some (vI (nI m)), some (vI w), some (vI (0 : Int32)), some (vI (nI 0))]) ⟨Or.inr rfl, Or.inr rfl, Or.inr rfl, Or.inr rfl, Or.inr rfl, trivial⟩ ?_
      refine g_mono (lp_X4_fc l (σ0 := σ) (S0 := habs σ 0) (Qf := fcF m (habs σ 0) 0) w hm m 0 0 σ1 hWσ1.2.1 (hoth.2 x0) (by rw [hWσ1.1]; exact x5) (by omega) (by rw [hWσ1.1]) hWσ1.2.2 hoth.1) (fun o σ' hp => ?_)
      have e : xforecast (habs σ 0) (nI m) w = fcA (habs σ 0) (fcF m (habs σ 0) 0) w := by rw [xforecast, if_neg zc7, if_pos zc16, nI_clamp (by omega)]
      exact ⟨by rw [e]; exact hp.1, x_trial hX hp.2.1 hp.2.2⟩
    · refine g_blk (pc' := 21) (loc' := [some (vR (7, 0, 0)), some (vI n), some (vI w), none, none]) (st' := [vI (-2 : Int32)]) (σ' := σ) fl4_ok [(19, .bipush (-2))] (by decide +kernel) rfl rfl ?_
      exact g_iret (by decide +kernel) ⟨by show some _ = some (vI (xforecast _ _ _)); rw [xforecast, if_neg zc7, if_neg (not_not_intro zc16)], XW.rf hX⟩
