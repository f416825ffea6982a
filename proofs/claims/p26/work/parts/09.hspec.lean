/-! A HOUSE as a value: five tables and four numbers; what each method of it answers and makes -/
abbrev HA : Type := (Nat → TV) × (Nat → Int32)
def habs (σ : Sg) (h : Nat) : HA := (fun j => if j < 5 then tabs σ j h else (0, fun _ _ => 0), fun k => if 5 ≤ k ∧ k ≤ 8 then σ.1 (2, 0, h) k else 0)
def setT (S : HA) (j : Nat) (T : TV) : HA := (fun i => if i = j then T else S.1 i, S.2)
def setF (S : HA) (k : Nat) (x : Int32) : HA := (S.1, fun i => if i = k then x else S.2 i)
def HOK (σ : Sg) (h : Nat) : Prop := h < 8 ∧ ∀ j, j < 5 → TOK σ j h
def FrH (h : Nat) (σ σ' : Sg) : Prop := (∀ q, q ≠ (2, 0, h) → (∀ j, j < 5 → q ≠ (0, j, h) ∧ q ≠ (1, j, h)) → σ'.1 q = σ.1 q) ∧ σ'.2 = σ.2
def HW (h : Nat) (S' : HA) (σ σ' : Sg) : Prop := habs σ' h = S' ∧ HOK σ' h ∧ FrH h σ σ'
theorem FrH.rf {h : Nat} {σ : Sg} : FrH h σ σ := ⟨fun _ _ _ => rfl, rfl⟩
theorem FrH.tr {h : Nat} {σ σ1 σ2 : Sg} (a : FrH h σ σ1) (b : FrH h σ1 σ2) : FrH h σ σ2 := ⟨fun q h1 h2 => (b.1 q h1 h2).trans (a.1 q h1 h2), b.2.trans a.2⟩
theorem HW.tr {h : Nat} {S1 S2 : HA} {σ σ1 σ2 : Sg} (a : HW h S1 σ σ1) (b : HW h S2 σ1 σ2) : HW h S2 σ σ2 := ⟨b.1, b.2.1, a.2.2.tr b.2.2⟩
theorem tabs_of {σ σ' : Sg} {j h : Nat} (h0 : σ'.1 (0, j, h) = σ.1 (0, j, h)) (h1 : σ'.1 (1, j, h) = σ.1 (1, j, h)) : tabs σ' j h = tabs σ j h ∧ (TOK σ j h → TOK σ' j h) := by
  have e : tN σ' j h = tN σ j h := by rw [tN, tN, h0]
  refine ⟨by rw [tabs, tabs, e, h1], fun hT => ?_⟩
  rw [TOK, e, h0]
  exact hT
theorem hw_T {σ σ' : Sg} {j h : Nat} {T : TV} (hH : HOK σ h) (hj : j < 5) (hT : TW j h T σ σ') : HW h (setT (habs σ h) j T) σ σ' := by
  obtain ⟨h1, h2, h3, h4⟩ := hT
  have ho : ∀ i, i ≠ j → tabs σ' i h = tabs σ i h ∧ (TOK σ i h → TOK σ' i h) := fun i hi => tabs_of (h3 (0, i, h) (by simp [hi]) (by simp)) (h3 (1, i, h) (by simp) (by simp [hi]))
  refine ⟨Prod.ext ?_ ?_, ⟨hH.1, fun i hi => ?_⟩, ⟨fun q h5 h6 => h3 q (h6 j hj).1 (h6 j hj).2, h4⟩⟩
  · funext i
    show (if i < 5 then tabs σ' i h else _) = if i = j then T else if i < 5 then tabs σ i h else _
    by_cases he : i = j
    · subst he
      rw [if_pos hj, if_pos rfl, h1]
    · rw [if_neg he, (ho i he).1]
  · funext k
    show (if 5 ≤ k ∧ k ≤ 8 then σ'.1 (2, 0, h) k else 0) = if 5 ≤ k ∧ k ≤ 8 then σ.1 (2, 0, h) k else 0
    rw [h3 (2, 0, h) (by simp) (by simp)]
  · by_cases he : i = j
    · subst he; exact h2
    · exact (ho i he).2 (hH.2 i hi)
theorem hw_F {σ σ' : Sg} {k h : Nat} {x : Int32} (hH : HOK σ h) (hk : 5 ≤ k ∧ k ≤ 8) (e : (upd2 σ.1 (2, 0, h) k x, σ.2) = σ') : HW h (setF (habs σ h) k x) σ σ' := by
  subst e
  have ho : ∀ q, q ≠ (2, 0, h) → (upd2 σ.1 (2, 0, h) k x, σ.2).1 q = σ.1 q := fun q hq => upd2_ne σ.1 (q := (2, 0, h)) (p := q) k x hq
  have ht : ∀ i, tabs (upd2 σ.1 (2, 0, h) k x, σ.2) i h = tabs σ i h ∧ (TOK σ i h → TOK (upd2 σ.1 (2, 0, h) k x, σ.2) i h) := fun i => tabs_of (ho (0, i, h) (by simp)) (ho (1, i, h) (by simp))
  refine ⟨Prod.ext ?_ ?_, ⟨hH.1, fun i hi => (ht i).2 (hH.2 i hi)⟩, ⟨fun q h5 h6 => ho q h5, rfl⟩⟩
  · funext i
    show (if i < 5 then tabs (upd2 σ.1 (2, 0, h) k x, σ.2) i h else _) = if i < 5 then tabs σ i h else _
    rw [(ht i).1]
  · funext i
    show (if 5 ≤ i ∧ i ≤ 8 then upd2 σ.1 (2, 0, h) k x (2, 0, h) i else 0) = if i = k then x else if 5 ≤ i ∧ i ≤ 8 then σ.1 (2, 0, h) i else 0
    rw [upd2_same]
    unfold upd
    by_cases he : i = k
    · subst he
      rw [if_pos hk, if_pos rfl, if_pos rfl]
    · rw [if_neg he, if_neg he]
def cl (S : HA) (j : Nat) (r c : Int32) : Int32 := tcell (S.1 j) r c
def wr (S : HA) (j : Nat) (r c v : Int32) : HA := setT S j (twr (wid j) (S.1 j) r c v)
def inc (S : HA) (j : Nat) (r c v : Int32) : HA := wr S j r c (cl S j r c + v)
def app (S : HA) (j : Nat) : HA := setT S j (tapp (S.1 j))
def sz (S : HA) (j : Nat) : Nat := (S.1 j).1
def fullS (S : HA) (j : Nat) : Int32 := if mst j ≤ sz S j then 1 else 0
section CT
variable {σ : Sg} {h : Nat}
theorem ha_T (j : Nat) (hj : j < 5) : (habs σ h).1 j = tabs σ j h := if_pos hj
theorem ha_N (hH : HOK σ h) (j : Nat) (hj : j < 5) : sz (habs σ h) j ≤ mst j := by
  rw [sz, ha_T j hj]
  exact (hH.2 j hj).1
theorem ct_size (l : Launch) (hH : HOK σ h) (j : Nat) (hj : j < 5) : Con l 0 yX3_size cX3_size 1 (some .int) [vR (0, j, h)] σ (pureP (nI (sz (habs σ h) j)) σ) := by
  rw [sz, ha_T j hj]; exact c_X3_size l (hH.2 j hj)
theorem ct_isFull (l : Launch) (hH : HOK σ h) (j : Nat) (hj : j < 5) : Con l 0 yX3_isFull cX3_isFull 1 (some .boolean) [vR (0, j, h)] σ (pureP (fullS (habs σ h) j) σ) := by
  rw [fullS, sz, ha_T j hj]; exact c_X3_isFull l (hH.2 j hj)
theorem ct_has (l : Launch) (hH : HOK σ h) (j : Nat) (hj : j < 5) (x : Int32) : Con l 0 yX3_has cX3_has 2 (some .boolean) [vR (0, j, h), vI x] σ (pureP (hasT x (sz (habs σ h) j)) σ) := by
  rw [sz, ha_T j hj]; exact c_X3_has l x (hH.2 j hj)
theorem ct_cell (l : Launch) (hH : HOK σ h) (j : Nat) (hj : j < 5) (row col : Int32) : Con l 0 yX3_cell cX3_cell 4 (some .int) [vR (0, j, h), vI row, vI col] σ (pureP (cl (habs σ h) j row col) σ) := by
  rw [cl, ha_T j hj]; exact c_X3_cell l row col (hH.2 j hj)
theorem ct_write (l : Launch) (hH : HOK σ h) (j : Nat) (hj : j < 5) (row col v : Int32) : Con l 0 yX3_write cX3_write 5 none [vR (0, j, h), vI row, vI col, vI v] σ (fun o σ' => o = none ∧ HW h (wr (habs σ h) j row col v) σ σ') := by
  rw [wr, ha_T j hj]; exact con_mono (c_X3_write l row col v (hH.2 j hj)) (fun o σ' hp => ⟨hp.1, hw_T hH hj hp.2⟩)
theorem ct_increase (l : Launch) (hH : HOK σ h) (j : Nat) (hj : j < 5) (row col v : Int32) : Con l 1 yX3_increase cX3_increase 4 none [vR (0, j, h), vI row, vI col, vI v] σ (fun o σ' => o = none ∧ HW h (inc (habs σ h) j row col v) σ σ') := by
  rw [inc, wr, cl, ha_T j hj]; exact con_mono (c_X3_increase l row col v (hH.2 j hj)) (fun o σ' hp => ⟨hp.1, hw_T hH hj hp.2⟩)
theorem ct_exchange (l : Launch) (hH : HOK σ h) (j : Nat) (hj : j < 5) (row col v : Int32) : Con l 1 yX3_exchange cX3_exchange 5 (some .int) [vR (0, j, h), vI row, vI col, vI v] σ (fun o σ' => o = some (vI (cl (habs σ h) j row col)) ∧ HW h (wr (habs σ h) j row col v) σ σ') := by
  rw [wr, cl, ha_T j hj]; exact con_mono (c_X3_exchange l row col v (hH.2 j hj)) (fun o σ' hp => ⟨hp.1, hw_T hH hj hp.2⟩)
theorem ct_append (l : Launch) (hH : HOK σ h) (j : Nat) (hj : j < 5) (hn : sz (habs σ h) j < mst j) : Con l 1 yX3_append cX3_append 3 (some .int) [vR (0, j, h)] σ (fun o σ' => o = some (vI (nI (sz (habs σ h) j))) ∧ HW h (app (habs σ h) j) σ σ') := by
  rw [app]; rw [sz, ha_T j hj] at hn ⊢; exact con_mono (c_X3_append l (hH.2 j hj) hn) (fun o σ' hp => ⟨hp.1, hw_T hH hj hp.2⟩)
theorem ct_remove (l : Launch) (hH : HOK σ h) (j : Nat) (hj : j < 5) {r0 : Nat} (hn : r0 < sz (habs σ h) j) : Con l 1 yX3_remove cX3_remove 4 none [vR (0, j, h), vI (nI r0)] σ (fun o σ' => o = none ∧ HW h (setT (habs σ h) j (trem ((habs σ h).1 j) r0)) σ σ') := by
  rw [sz] at hn; rw [ha_T j hj] at hn ⊢; exact con_mono (c_X3_remove l (hH.2 j hj) hn) (fun o σ' hp => ⟨hp.1, hw_T hH hj hp.2⟩)
theorem ct_clear (l : Launch) (hH : HOK σ h) (j : Nat) (hj : j < 5) : Con l 0 yX3_clear cX3_clear 1 none [vR (0, j, h)] σ (fun o σ' => o = none ∧ HW h (setT (habs σ h) j (0, fun _ _ => 0)) σ σ') :=
  con_mono (c_X3_clear l (hH.2 j hj)) (fun o σ' hp => ⟨hp.1, hw_T hH hj hp.2⟩)
theorem ct_copy (l : Launch) {h2 : Nat} (hH : HOK σ h) (hH2 : HOK σ h2) (j : Nat) (hj : j < 5) : Con l 1 yX3_copyFrom cX3_copyFrom 2 none [vR (0, j, h), vR (0, j, h2)] σ (fun o σ' => o = none ∧ HW h (setT (habs σ h) j ((habs σ h2).1 j)) σ σ') := by
  rw [ha_T (h := h2) j hj]; exact con_mono (c_X3_copyFrom l (hH2.2 j hj)) (fun o σ' hp => ⟨hp.1, hw_T hH hj hp.2⟩)
end CT
-- ---- what the methods answer and make (as the class does it)
def isInS (x a b : Int32) : Int32 := if x < a then 0 else if b < x then 0 else 1
def bitS (b : Int32) : Int32 := if b = 0 then 0 else 1
def remS (x y : Int32) : Int32 := x - x / y * y
def awayS (S : HA) (r : Int32) : Int32 := isInS (S.2 5) (cl S 0 r 1) (cl S 0 r 2)
def loadS (S : HA) (r : Int32) : Int32 := cl S 0 r 3 + cl S 0 r 6
def addResS (S : HA) (w : Int32) : HA :=
  let r := nI (sz S 0)
  wr (wr (wr (app S 0) 0 r 0 w) 0 r 1 0) 0 r 2 (-1)
def addAreaS (S : HA) (e p g : Int32) : HA :=
  let r := nI (sz S 1)
  wr (wr (wr (app S 1) 1 r 0 e) 1 r 1 p) 1 r 2 g
def deepS (S : HA) (a : Int32) : Int32 := if cl S 1 a 3 < cl S 4 0 3 then 0 else 1
def dueS (S : HA) (a : Int32) : Int32 := if cl S 1 a 1 ≤ 0 then 0 else if ¬ remS (S.2 5) (cl S 1 a 1) = remS a (cl S 1 a 1) then 0 else 1
def dirtL (S : HA) : Nat → Int32
  | 0 => 0
  | n + 1 => if dirtL S n < cl S 1 (nI n) 3 then cl S 1 (nI n) 3 else dirtL S n
def cleanS (S : HA) (a : Int32) : HA := inc (wr S 1 a 3 0) 1 a 4 1
def effS (S : HA) (a : Int32) : Int32 := if deepS S a = 0 then (if dueS S a = 0 then 0 else cl S 1 a 0) else (cl S 4 0 2 * cl S 1 a 0 + 1) / 2
def nextL (S : HA) (f : Int32) : Nat → Int32 × Int32
  | 0 => (-6, 0)
  | n + 1 => if ¬ (f >>> (nI n &&& 31)) &&& 1 = 0 then nextL S f n else if effS S (nI n) ≤ (nextL S f n).2 then nextL S f n else (nI n, effS S (nI n))
def nextS (S : HA) (f : Int32) : Int32 := (nextL S f (sz S 1)).1
def addTS (S : HA) (a e d : Int32) : HA :=
  let t := nI (sz S 2)
  wr (wr (wr (app S 2) 2 t 0 a) 2 t 2 e) 2 t 4 (bitS d)
def mkS : Nat → HA → Int32 → HA
  | 0, S, _ => S
  | k + 1, S, f =>
    if nextS S f = -6 then S else
    let a := nextS S f
    let e := effS S a
    let d := deepS S a
    mkS k (if d = 0 then addTS S a e d else addTS (addTS S a e d) a e d) (f ||| 1 <<< (a &&& 31))
def twinS (S : HA) (t : Int32) : Int32 := if t ≤ 0 then 0 else if ¬ cl S 2 (t - 1) 0 = cl S 2 t 0 then 0 else 1
def aheadS (S : HA) (r o : Int32) : Int32 :=
  if loadS S r * cl S 0 o 0 = loadS S o * cl S 0 r 0 then (if cl S 0 r 4 ≤ cl S 0 o 4 then 0 else 1)
  else (if loadS S o * cl S 0 r 0 ≤ loadS S r * cl S 0 o 0 then 0 else 1)
def freeS (S : HA) (b r : Int32) : Int32 := if r = b then 0 else if ¬ awayS S r = 0 then 0 else 1
def leastL (S : HA) (b : Int32) : Nat → Int32
  | 0 => -6
  | n + 1 => if freeS S b (nI n) = 0 then leastL S b n else if leastL S b n = -6 then nI n else if aheadS S (nI n) (leastL S b n) = 0 then leastL S b n else nI n
def leastS (S : HA) (b : Int32) : Int32 := if ¬ leastL S b (sz S 0) = -6 then leastL S b (sz S 0) else b
def give1 (S : HA) (t : Int32) : HA :=
  let r := leastS S (if twinS S t = 0 then -6 else cl S 2 (t - 1) 1)
  let S1 := wr S 2 t 1 r
  inc S1 0 r 6 (cl S1 2 t 2)
def giveF : Nat → Nat → HA → HA
  | 0, _, S => S
  | k + 1, t, S => giveF k (t + 1) (give1 S (nI t))
def planS (S : HA) : HA :=
  let S0 := setF S 6 1
  if leastS S0 (-6) = -6 then S0 else
  let S1 := mkS (sz S0 1) S0 0
  giveF (sz S1 2) 0 S1
def openS (S : HA) (t : Int32) : Int32 := if hasT t (sz S 2) = 0 then 0 else if ¬ cl S 2 t 3 = 0 then 0 else 1
def openOfS (S : HA) (t r : Int32) : Int32 := if openS S t = 0 then 0 else if ¬ cl S 2 t 1 = r then 0 else 1
def cntL (S : HA) : Nat → Int32
  | 0 => 0
  | n + 1 => cntL S n + bitS (openS S (nI n))
def openDeepS (S : HA) (t : Int32) : Int32 := if openS S t = 0 then 0 else if ¬ cl S 2 t 4 = 1 then 0 else 1
def cntDL (S : HA) : Nat → Int32
  | 0 => 0
  | n + 1 => cntDL S n + bitS (openDeepS S (nI n))
def cntOL (S : HA) (r : Int32) : Nat → Int32
  | 0 => 0
  | n + 1 => cntOL S r n + bitS (openOfS S (nI n) r)
def firstF (S : HA) (r : Int32) : Nat → Nat → Int32
  | 0, _ => -6
  | k + 1, t => if openOfS S (nI t) r = 0 then firstF S r k (t + 1) else nI t
def twinOpenS (S : HA) (t : Int32) : Int32 := if ¬ cl S 2 t 4 = 0 then openS S (if twinS S t = 0 then t + 1 else t - 1) else 0
def dropT (t : Int32) : Nat → TV → TV
  | 0, T => T
  | k + 1, T => if tcell T (nI k) 0 = t then dropT t k (trem T k) else if ¬ tcell T (nI k) 1 = t then dropT t k T else dropT t k (trem T k)
def dropS (S : HA) (t : Int32) : HA := setT S 3 (dropT t (sz S 3) (S.1 3))
def finS (S : HA) (t : Int32) : HA :=
  let e := cl S 2 t 2
  let r := cl S 2 t 1
  let S1 := wr S 2 t 3 1
  let S2 := setF S1 7 (S1.2 7 + 1)
  let S3 := inc (inc S2 0 r 6 (-e)) 0 r 3 e
  let S4 := if ¬ twinOpenS S3 t = 0 then S3 else cleanS S3 (cl S3 2 t 0)
  dropS S4 t
def finG (last : Int32) : Nat → Nat → HA → HA
  | 0, _, S => S
  | k + 1, t, S => if last < nI t then S else if sz S 2 ≤ t then S else finG last k (t + 1) (if openS S (nI t) = 0 then S else finS S (nI t))
def finFT (S : HA) (f : Nat) (last : Int32) : HA := finG last (sz S 2) f S
def payS (S : HA) (r a : Int32) : HA :=
  let p := if cl S 0 r 4 < cl S 1 a 0 then cl S 0 r 4 else cl S 1 a 0
  cleanS (inc (inc S 0 r 4 (-p)) 0 r 3 p) a
def skipS (S : HA) (t : Int32) : HA :=
  let e := cl S 2 t 2
  let r := cl S 2 t 1
  let S1 := setF S 8 (S.2 8 + 1)
  let S2 := inc (inc S1 0 r 6 (-e)) 0 r 4 e
  inc S2 0 r 5 (cl S2 4 0 0)
def skipF : Nat → Nat → HA → HA
  | 0, _, S => S
  | k + 1, t, S => skipF k (t + 1) (if openS S (nI t) = 0 then S else skipS S (nI t))
def decayF (d : Int32) : Nat → Nat → HA → HA
  | 0, _, S => S
  | k + 1, r, S => decayF d k (r + 1) (wr S 0 (nI r) 5 (cl S 0 (nI r) 5 * d / 100))
def growF : Nat → Nat → HA → HA
  | 0, _, S => S
  | k + 1, a, S => growF k (a + 1) (wr S 1 (nI a) 3 (if cl S 1 (nI a) 3 + cl S 1 (nI a) 2 < 1000 then cl S 1 (nI a) 3 + cl S 1 (nI a) 2 else 1000))
def endR (S1 : HA) : HA :=
  let S2 := setT (setT S1 2 (0, fun _ _ => 0)) 3 (0, fun _ _ => 0)
  let S3 := decayF (100 - cl S2 4 0 1) (sz S2 0) 0 S2
  let S4 := growF (sz S3 1) 0 S3
  let S5 := setF S4 5 (S4.2 5 + 1)
  setF S5 6 0
def endS (S : HA) : HA := endR (skipF (sz S 2) 0 S)
def canS (S : HA) (a b : Int32) : Int32 := if openS S a = 0 then 0 else if openS S b = 0 then 0 else if cl S 2 a 1 = cl S 2 b 1 then 0 else 1
def propF (S : HA) (a b : Int32) : Nat → Nat → Int32
  | 0, _ => 0
  | k + 1, s => if ¬ cl S 3 (nI s) 0 = a then propF S a b k (s + 1) else if ¬ cl S 3 (nI s) 1 = b then propF S a b k (s + 1) else 1
def addSwS (S : HA) (a b : Int32) : HA :=
  let s := nI (sz S 3)
  wr (wr (app S 3) 3 s 0 a) 3 s 1 b
def gainS (S : HA) (a b : Int32) : Int32 := cl S 2 b 2 - cl S 2 a 2
def accS (S : HA) (s : Int32) : HA :=
  let a := cl S 3 s 0
  let b := cl S 3 s 1
  let ra := cl S 2 a 1
  let rb := cl S 2 b 1
  let g := gainS S a b
  let S1 := wr (wr S 2 a 1 rb) 2 b 1 ra
  let S2 := inc (inc S1 0 ra 6 g) 0 rb 6 (-g)
  dropS (dropS S2 a) b
def rateS (S : HA) (r x : Int32) : Int32 := if cl S 0 r 0 ≤ 0 then 0 else 1000 * x / cl S 0 r 0
def amountS (S : HA) (w g lo x : Int32) (r : Int32) : Int32 := (if w = 0 then cl S 0 r 3 else loadS S r) + (if ¬ r = g then (if ¬ r = lo then 0 else -x) else x)
def spStep (r : Int32) (p : Int32 × Int32) (q : Int32) : Int32 × Int32 := (if ¬ r = 0 then (if q < p.1 then q else p.1) else q, if p.2 < q then q else p.2)
def spreadL (S : HA) (w g lo x : Int32) : Nat → Int32 × Int32
  | 0 => (0, 0)
  | n + 1 => spStep (nI n) (spreadL S w g lo x n) (rateS S (nI n) (amountS S w g lo x (nI n)))
def spreadS (S : HA) (w g lo x : Int32) : Int32 :=
  (spreadL S w g lo x (sz S 0)).2 - (spreadL S w g lo x (sz S 0)).1
def spreadIfS (S : HA) (a b : Int32) : Int32 := spreadS S 1 (cl S 2 a 1) (cl S 2 b 1) (gainS S a b)
theorem g_remS {l : Launch} {R : Room} {own : String} {cc : ByteArray} {nL : Nat} {ret : Option FieldType} {post : Option AV → Sg → Prop} {pc : Nat} {loc : List (Option AV)} {st : List AV} {σ : Sg} {x y : Int32} (hd : decode cc pc = .ok (.irem, 1)) (hy : ¬ y = 0) (k : G l R own cc nL ret post (pc + 1) loc (vI (remS x y) :: st) σ) : G l R own cc nL ret post pc loc (vI y :: vI x :: st) σ := g_irem hd hy k
theorem setT_self (S : HA) (j : Nat) : setT S j (S.1 j) = S := by
  refine Prod.ext ?_ rfl
  funext i
  show (if i = j then S.1 j else S.1 i) = S.1 i
  by_cases h : i = j
  · rw [if_pos h, h]
  · rw [if_neg h]
theorem setT_tw (S : HA) (j : Nat) (T T' : TV) : setT (setT S j T) j T' = setT S j T' := by
  refine Prod.ext ?_ rfl
  funext i
  show (if i = j then T' else if i = j then T else S.1 i) = if i = j then T' else S.1 i
  by_cases h : i = j
  · rw [if_pos h, if_pos h]
  · rw [if_neg h, if_neg h, if_neg h]
theorem setT_at (S : HA) (j : Nat) (T : TV) : (setT S j T).1 j = T := if_pos rfl
theorem im1 (x : Int32) : x + (-1) = x - 1 := (Int32.sub_eq_add_neg x 1).symm
theorem hw_other {σ σ' : Sg} {h h2 : Nat} (hne : h2 ≠ h) (hF : FrH h σ σ') : habs σ' h2 = habs σ h2 ∧ (HOK σ h2 → HOK σ' h2) := by
  have e0 : ∀ j, σ'.1 (0, j, h2) = σ.1 (0, j, h2) := fun j => hF.1 (0, j, h2) (by simp) (fun i _ => ⟨by simp [hne], by simp⟩)
  have e1 : ∀ j, σ'.1 (1, j, h2) = σ.1 (1, j, h2) := fun j => hF.1 (1, j, h2) (by simp) (fun i _ => ⟨by simp, by simp [hne]⟩)
  have e2 : σ'.1 (2, 0, h2) = σ.1 (2, 0, h2) := hF.1 (2, 0, h2) (by simp [hne]) (fun i _ => ⟨by simp, by simp⟩)
  refine ⟨Prod.ext ?_ ?_, fun hH => ⟨hH.1, fun j hj => (tabs_of (e0 j) (e1 j)).2 (hH.2 j hj)⟩⟩
  · funext j
    show (if j < 5 then tabs σ' j h2 else _) = if j < 5 then tabs σ j h2 else _
    rw [(tabs_of (e0 j) (e1 j)).1]
  · funext k
    show (if 5 ≤ k ∧ k ≤ 8 then σ'.1 (2, 0, h2) k else 0) = if 5 ≤ k ∧ k ≤ 8 then σ.1 (2, 0, h2) k else 0
    rw [e2]
