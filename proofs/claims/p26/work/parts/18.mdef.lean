/-! THE MODEL'S ROW OF NUMBERS: the state with that row set; what each method of the model answers and makes -/
def sa (σ : Sg) (f : Nat → Int32) : Sg := (fun p => if p = (9, 0, 0) then f else σ.1 p, σ.2)
theorem sa_at (σ : Sg) (f : Nat → Int32) : (sa σ f).1 (9, 0, 0) = f := by
  show (if ((9, 0, 0) : Lo) = (9, 0, 0) then f else σ.1 (9, 0, 0)) = f
  exact if_pos rfl
theorem sa_ne (σ : Sg) (f : Nat → Int32) {p : Lo} (h : p ≠ (9, 0, 0)) : (sa σ f).1 p = σ.1 p := by
  show (if p = (9, 0, 0) then f else σ.1 p) = σ.1 p
  exact if_neg h
theorem sa_self (σ : Sg) : sa σ (σ.1 (9, 0, 0)) = σ := by
  refine Prod.ext ?_ rfl
  funext p
  show (if p = (9, 0, 0) then σ.1 (9, 0, 0) else σ.1 p) = σ.1 p
  by_cases h : p = (9, 0, 0)
  · rw [if_pos h, h]
  · rw [if_neg h]
theorem sa_sa (σ : Sg) (f g : Nat → Int32) : sa (sa σ f) g = sa σ g := by
  refine Prod.ext ?_ rfl
  funext p
  show (if p = (9, 0, 0) then g else if p = (9, 0, 0) then f else σ.1 p) = if p = (9, 0, 0) then g else σ.1 p
  by_cases h : p = (9, 0, 0)
  · rw [if_pos h, if_pos h]
  · rw [if_neg h, if_neg h, if_neg h]
theorem sa_up (σ : Sg) (f : Nat → Int32) (k : Nat) (v : Int32) : (upd2 (sa σ f).1 (9, 0, 0) k v, (sa σ f).2) = sa σ (upd f k v) := by
  refine Prod.ext ?_ rfl
  funext p
  show (if p = (9, 0, 0) then upd ((sa σ f).1 (9, 0, 0)) k v else if p = (9, 0, 0) then f else σ.1 p) = if p = (9, 0, 0) then upd f k v else σ.1 p
  by_cases h : p = (9, 0, 0)
  · rw [if_pos h, if_pos h, sa_at]
  · rw [if_neg h, if_neg h, if_neg h]
theorem up_ne {f : Nat → Int32} {k j : Nat} {v : Int32} (h : j ≠ k) : upd f k v j = f j := if_neg h
theorem up_at {f : Nat → Int32} {k : Nat} {v : Int32} : upd f k v k = v := if_pos rfl
theorem ix6 (r c : Nat) : (12 : Int32) + (6 : Int32) * nI r + nI c = nI (12 + 6 * r + c) := by rw [show (12 : Int32) = nI 12 from rfl, show (6 : Int32) = nI 6 from rfl, pk_mul, nI_add, nI_add]
theorem ix60 (r c : Nat) : (60 : Int32) + (5 : Int32) * nI r + nI c = nI (60 + 5 * r + c) := by rw [show (60 : Int32) = nI 60 from rfl, show (5 : Int32) = nI 5 from rfl, pk_mul, nI_add, nI_add]
theorem ix90 (r c : Nat) : (90 : Int32) + (5 : Int32) * nI r + nI c = nI (90 + 5 * r + c) := by rw [show (90 : Int32) = nI 90 from rfl, show (5 : Int32) = nI 5 from rfl, pk_mul, nI_add, nI_add]
theorem ix150 (r c : Nat) : (150 : Int32) + (2 : Int32) * nI r + nI c = nI (150 + 2 * r + c) := by rw [show (150 : Int32) = nI 150 from rfl, show (2 : Int32) = nI 2 from rfl, pk_mul, nI_add, nI_add]
theorem ix8 (c : Nat) : (8 : Int32) + nI c = nI (8 + c) := by rw [show (8 : Int32) = nI 8 from rfl, nI_add]
def mo (f : Nat → Int32) (r c : Nat) : Int32 := f (12 + 6 * r + c)
def ma (f : Nat → Int32) (a c : Nat) : Int32 := f (60 + 5 * a + c)
def mk (f : Nat → Int32) (t c : Nat) : Int32 := f (90 + 5 * t + c)
def mw (f : Nat → Int32) (s c : Nat) : Int32 := f (150 + 2 * s + c)
def so (f : Nat → Int32) (r c : Nat) (v : Int32) : Nat → Int32 := upd f (12 + 6 * r + c) v
def sA (f : Nat → Int32) (a c : Nat) (v : Int32) : Nat → Int32 := upd f (60 + 5 * a + c) v
def sk (f : Nat → Int32) (t c : Nat) (v : Int32) : Nat → Int32 := upd f (90 + 5 * t + c) v
def awayM (f : Nat → Int32) (r : Nat) : Int32 := isInS (f 0) (mo f r 4) (mo f r 5)
def dueM (f : Nat → Int32) (a : Nat) : Int32 := if ¬ remS (f 0) (ma f a 1) = remS (nI a) (ma f a 1) then 0 else 1
def deepM (f : Nat → Int32) (a : Nat) : Int32 := if ma f a 3 < f 11 then 0 else 1
def lm (f : Nat → Int32) (r : Nat) : Nat → Int32
  | 0 => mo f r 1
  | t + 1 => lm f r t + (if ¬ mk f t 1 = nI r then 0 else if ¬ mk f t 3 = 0 then 0 else mk f t 2)
def aheadM (f : Nat → Int32) (r o nt : Nat) : Int32 :=
  if lm f r nt * mo f o 0 = lm f o nt * mo f r 0 then (if mo f r 2 = mo f o 2 then (if nI o ≤ nI r then 0 else 1) else if mo f r 2 ≤ mo f o 2 then 0 else 1)
  else (if lm f o nt * mo f r 0 ≤ lm f r nt * mo f o 0 then 0 else 1)
def bestL (f : Nat → Int32) (b : Int32) (nt : Nat) : Nat → Int32
  | 0 => -6
  | n + 1 => if ¬ awayM f n = 0 then bestL f b nt n else if nI n = b then bestL f b nt n else if bestL f b nt n < 0 then nI n else if aheadM f n (bestL f b nt n).toNatClampNeg nt = 0 then bestL f b nt n else nI n
def partL (f : Nat → Int32) (t : Nat) : Nat → Int32
  | 0 => -6
  | n + 1 => if ¬ mk f n 4 = 1 then partL f t n else if ¬ mk f n 0 = mk f t 0 then partL f t n else if ¬ mk f t 4 = 1 then partL f t n else mk f n 1
-- a row of tasks moves on by one
def cpR (f : Nat → Int32) (k : Nat) : Nat → Nat → (Nat → Int32)
  | 0, _ => f
  | m + 1, c => cpR (sk f (k + 1) c (mk f k c)) k m (c + 1)
def shM (e : Int32) : Nat → (Nat → Int32) → (Nat → Int32) × Nat
  | 0, f => (f, 0)
  | k + 1, f => if e ≤ mk f k 2 then (f, k + 1) else shM e k (cpR f k 5 0)
def putT (f : Nat → Int32) (k a : Nat) (e d : Int32) : Nat → Int32 := sk (sk (sk (sk (sk f k 0 (nI a)) k 1 (-6)) k 2 e) k 3 0) k 4 d
def addM (f : Nat → Int32) (nt a : Nat) (e d : Int32) : Nat → Int32 := upd (putT (shM e nt f).1 (shM e nt f).2 a e d) 3 (nI (nt + 1))
def effM (f : Nat → Int32) (a : Nat) : Int32 := (f 10 * ma f a 0 + 1) / 2
def pl1 (f : Nat → Int32) (nt a : Nat) : (Nat → Int32) × Nat :=
  if deepM f a = 0 then (if dueM f a = 0 then (f, nt) else (addM f nt a (ma f a 0) 0, nt + 1)) else (addM (addM f nt a (effM f a) 1) (nt + 1) a (effM f a) 1, nt + 2)
def plA : Nat → Nat → (Nat → Int32) → Nat → (Nat → Int32) × Nat
  | 0, _, f, nt => (f, nt)
  | k + 1, a, f, nt => plA k (a + 1) (pl1 f nt a).1 (pl1 f nt a).2
def gv1 (f : Nat → Int32) (nr nt t : Nat) : Nat → Int32 :=
  sk f t 1 (if ¬ bestL f (partL f t t) nt nr = -6 then bestL f (partL f t t) nt nr else bestL f (-6) nt nr)
def gvM (nr nt : Nat) : Nat → Nat → (Nat → Int32) → (Nat → Int32)
  | 0, _, f => f
  | k + 1, t, f => gvM nr nt k (t + 1) (gv1 f nr nt t)
def planM (f : Nat → Int32) (nr na : Nat) : (Nat → Int32) × Nat :=
  let f1 := upd (upd f 4 1) 3 0
  if bestL f1 (-6) 0 nr = -6 then (f1, 0) else
  let p := plA na 0 f1 0
  (gvM nr p.2 p.2 0 p.1, p.2)
def cleanM (f : Nat → Int32) (a : Nat) : Nat → Int32 := sA (sA f a 3 0) a 4 (ma (sA f a 3 0) a 4 + 1)
def rmF (m : Nat) : Nat → (Nat → Int32) → (Nat → Int32)
  | 0, f => f
  | k + 1, f => rmF m k (upd f (150 + (m - (k + 1))) (f (150 + (m - (k + 1)) + 2)))
def rmM (f : Nat → Int32) (ns s : Nat) : Nat → Int32 := rmF (2 * (ns - 1)) (2 * (ns - 1) - 2 * s) (upd f 7 (nI (ns - 1)))
def drM (t : Int32) : Nat → (Nat → Int32) → Nat → (Nat → Int32) × Nat
  | 0, f, ns => (f, ns)
  | k + 1, f, ns => if mw f k 0 = t then drM t k (rmM f ns k) (ns - 1) else if ¬ mw f k 1 = t then drM t k f ns else drM t k (rmM f ns k) (ns - 1)
def lastL (f : Nat → Int32) (t : Nat) : Nat → Int32
  | 0 => 1
  | n + 1 => if lastL f t n = 0 then 0 else if nI n = nI t then 1 else if ¬ mk f n 0 = mk f t 0 then 1 else if ¬ mk f n 3 = 1 then 0 else 1
def finM (f : Nat → Int32) (nt ns t r a : Nat) : (Nat → Int32) × Nat :=
  let f1 := sk f t 3 1
  let f2 := so f1 r 1 (mo f1 r 1 + mk f1 t 2)
  let f3 := if lastL f2 t nt = 0 then f2 else cleanM f2 a
  let p := drM (nI t) ns f3 ns
  (upd p.1 5 (p.1 5 + 1), p.2)
def ext (f : Nat → Int32) (r a : Nat) : Nat → Int32 :=
  let p := if ma f a 0 ≤ mo f r 2 then ma f a 0 else mo f r 2
  let f1 := cleanM f a
  let f2 := so f1 r 2 (mo f1 r 2 - p)
  so f2 r 1 (mo f2 r 1 + p)
def skM (f : Nat → Int32) (t r : Nat) : Nat → Int32 :=
  let f1 := so f r 2 (mo f r 2 + mk f t 2)
  so f1 r 3 (mo f1 r 3 + f1 8)
def skF (who : Nat → Nat) : Nat → Nat → (Nat → Int32) → Int32 → (Nat → Int32) × Int32
  | 0, _, f, n => (f, n)
  | k + 1, t, f, n => if ¬ mk f t 3 = 0 then skF who k (t + 1) f n else skF who k (t + 1) (skM f t (who t)) (n + 1)
def dcF : Nat → Nat → (Nat → Int32) → (Nat → Int32)
  | 0, _, f => f
  | k + 1, r, f => dcF k (r + 1) (so f r 3 (mo f r 3 * (100 - f 9) / 100))
def gwF : Nat → Nat → (Nat → Int32) → (Nat → Int32)
  | 0, _, f => f
  | k + 1, a, f => gwF k (a + 1) (sA f a 3 (if ma f a 3 + ma f a 2 ≤ 1000 then ma f a 3 + ma f a 2 else 1000))
def endM (f : Nat → Int32) (who : Nat → Nat) (nr na nt : Nat) : Nat → Int32 :=
  let p := skF who nt 0 f 0
  let f1 := upd p.1 6 (p.1 6 + p.2)
  let f2 := upd (upd f1 3 0) 7 0
  let f3 := dcF nr 0 f2
  let f4 := gwF na 0 f3
  upd (upd f4 0 (f4 0 + 1)) 4 0
def prL (f : Nat → Int32) (a b : Int32) : Nat → Int32
  | 0 => 0
  | n + 1 => if ¬ prL f a b n = 0 then 1 else if ¬ mw f n 0 = a then 0 else if ¬ mw f n 1 = b then 0 else 1
def exM (f : Nat → Int32) (a b : Nat) : Nat → Int32 := sk (sk f a 1 (mk f b 1)) b 1 (mk f a 1)
def opN (f : Nat → Int32) (r : Nat) : Nat → Int32
  | 0 => 0
  | t + 1 => if ¬ mk f t 1 = nI r then opN f r t else if ¬ mk f t 3 = 0 then opN f r t else opN f r t + 1
def opF (f : Nat → Int32) (r : Nat) : Nat → Nat → Int32
  | 0, _ => -6
  | k + 1, t => if ¬ mk f t 1 = nI r then opF f r k (t + 1) else if ¬ mk f t 3 = 0 then opF f r k (t + 1) else nI t
def rtM (f : Nat → Int32) (pl : Int32) (nt r : Nat) : Int32 := 1000 * (if pl = 0 then mo f r 1 else lm f r nt) / mo f r 0
def spM (f : Nat → Int32) (pl : Int32) (nt : Nat) : Nat → Int32 × Int32
  | 0 => (0, 0)
  | r + 1 => (if nI r = 0 then rtM f pl nt r else if (spM f pl nt r).1 ≤ rtM f pl nt r then (spM f pl nt r).1 else rtM f pl nt r, if nI r = 0 then rtM f pl nt r else if rtM f pl nt r ≤ (spM f pl nt r).2 then (spM f pl nt r).2 else rtM f pl nt r)
def sprM (f : Nat → Int32) (pl : Int32) (nt nr : Nat) : Int32 := (spM f pl nt nr).2 - (spM f pl nt nr).1
def opT (f : Nat → Int32) : Nat → Int32
  | 0 => 0
  | t + 1 => opT f t + (if ¬ mk f t 3 = 0 then 0 else 1)
def foL (f : Nat → Int32) : Nat → Int32
  | 0 => 0
  | a + 1 => if ma f a 3 ≤ foL f a then foL f a else ma f a 3
