/-! THE FRAME: an abstract state of the whole system (places instead of addresses), a judgement G over it, its rows -/
-- a place: kind, number, house
abbrev Lo : Type := Nat × Nat × Nat
-- a value: int, long, a place or null
abbrev AV : Type := Int32 ⊕ (Int64 ⊕ Option Lo)
-- the state: the ints of each place (fields by their numbers, cells of arrays by their indices), and the houses in the array of states
abbrev Sg : Type := (Lo → Nat → Int32) × (Nat → Nat)
-- the addresses, the classes, the array classes
abbrev EV : Type := (Lo → Nat) × (va_G × (Nat → ClassId))
abbrev vI (x : Int32) : AV := .inl x
abbrev vL (x : Int64) : AV := .inr (.inl x)
abbrev vR (q : Lo) : AV := .inr (.inr (some q))
abbrev vN : AV := .inr (.inr none)
def cv (E : EV) : AV → Value
  | .inl x => .int x
  | .inr (.inl x) => .long x
  | .inr (.inr none) => .null
  | .inr (.inr (some q)) => .ref (E.1 q)
def tMost : Nat → Int32
  | 0 => 8
  | 1 => 6
  | 2 => 12
  | 3 => 6
  | 4 => 1
  | _ => 30
def tWid : Nat → Int32
  | 0 => 7
  | 1 => 5
  | 2 => 5
  | 3 => 2
  | 4 => 4
  | _ => 2
def tLen : Nat → Nat
  | 0 => 56
  | 1 => 30
  | 2 => 60
  | 3 => 12
  | 4 => 4
  | _ => 60
def mLen : Nat → Nat
  | 0 => 8
  | 1 => 6
  | 2 => 8
  | 3 => 8
  | 4 => 6
  | 5 => 8
  | 6 => 12
  | _ => 4
-- a field: an int that changes, a constant, a place
abbrev FS : Type := Option (Int32 ⊕ Lo)
abbrev fc (x : Int32) : FS := some (.inl x)
abbrev fr (q : Lo) : FS := some (.inr q)
-- the shape of a place: class and fields, or kind of array (0 int, 1 char, 2 houses) and length
def shp : Lo → (Nat × List FS) ⊕ (Nat × Nat)
  | (0, j, h) => .inl (3, [fc (tMost j), fc (tWid j), fr (1, j, h), none])
  | (1, j, _) => .inr (0, tLen j)
  | (2, _, h) => .inl (1, [fr (0, 0, h), fr (0, 1, h), fr (0, 2, h), fr (0, 3, h), fr (0, 4, h), none, none, none, none])
  | (3, _, _) => .inl (0, [fr (4, 0, 0), none])
  | (4, 0, 0) => .inr (2, 6)
  | (5, _, _) => .inl (2, [fr (6, 0, 0), none, fr (0, 5, 0)])
  | (6, _, _) => .inr (1, 60)
  | (7, _, _) => .inl (4, [fr (2, 0, 0), fr (2, 0, 1), fr (3, 0, 0), fr (5, 0, 0)])
  | (8, _, _) => .inl (5, [fr (9, 0, 0), fr (9, 1, 0), fr (9, 2, 0), none, fr (9, 3, 0), none, none, none, none, fr (9, 4, 0), none])
  | (_, j, _) => .inr (0, mLen j)
def allLo : List Lo := (List.range 8).flatMap (fun h => (2, 0, h) :: (List.range 5).flatMap (fun j => [(0, j, h), (1, j, h)])) ++ [(0, 5, 0), (1, 5, 0), (3, 0, 0), (4, 0, 0), (5, 0, 0), (6, 0, 0), (7, 0, 0)]
theorem lo_H {h : Nat} (hh : h < 8) : ((2, 0, h) : Lo) ∈ allLo := (by decide +kernel : ∀ h, h < 8 → ((2, 0, h) : Lo) ∈ allLo) h hh
theorem lo_T {j h : Nat} (hj : j < 5) (hh : h < 8) : ((0, j, h) : Lo) ∈ allLo := (by decide +kernel : ∀ h, h < 8 → ∀ j, j < 5 → ((0, j, h) : Lo) ∈ allLo) h hh j hj
theorem lo_A {j h : Nat} (hj : j < 5) (hh : h < 8) : ((1, j, h) : Lo) ∈ allLo := (by decide +kernel : ∀ h, h < 8 → ∀ j, j < 5 → ((1, j, h) : Lo) ∈ allLo) h hh j hj
def okV : AV → Prop
  | .inr (.inr (some q)) => q ∈ allLo
  | _ => True
def fsOk (f : FS) : Bool := match f with
  | some (.inr r) => decide (r ∈ allLo)
  | _ => true
def shOk (q : Lo) : Bool := match shp q with
  | .inl x => x.2.all fsOk
  | .inr _ => true
theorem sh_closed : ∀ q ∈ allLo, shOk q = true := by decide +kernel
-- a field's value
def fv (E : EV) (V : Nat → Int32) (k : Nat) : FS → Value
  | none => .int (V k)
  | some (.inl c) => .int c
  | some (.inr r) => .ref (E.1 r)
def av (V : Nat → Int32) (k : Nat) : FS → AV
  | none => vI (V k)
  | some (.inl c) => vI c
  | some (.inr r) => vR r
theorem cv_av (E : EV) (V : Nat → Int32) (k : Nat) (f : FS) : cv E (av V k f) = fv E V k f := by
  rcases f with _ | c | r <;> rfl
def fvs (E : EV) (V : Nat → Int32) : Nat → List FS → List Value
  | _, [] => []
  | k, f :: r => fv E V k f :: fvs E V (k + 1) r
theorem fvs_len (E : EV) (V : Nat → Int32) : ∀ (l : List FS) (k : Nat), (fvs E V k l).length = l.length
  | [], _ => rfl
  | _ :: r, k => by rw [fvs, List.length_cons, List.length_cons, fvs_len E V r (k + 1)]
theorem fvs_get (E : EV) (V : Nat → Int32) : ∀ (l : List FS) (k i : Nat) (f : FS), l[i]? = some f → (fvs E V k l)[i]? = some (fv E V (k + i) f)
  | [], _, _, _, h => by simp at h
  | g :: r, k, 0, f, h => by
    simp only [List.getElem?_cons_zero, Option.some.injEq] at h
    subst h
    rfl
  | g :: r, k, i + 1, f, h => by
    rw [List.getElem?_cons_succ] at h
    rw [fvs, List.getElem?_cons_succ, fvs_get E V r (k + 1) i f h, show k + 1 + i = k + (i + 1) from by omega]
def upd2 (V : Lo → Nat → Int32) (q : Lo) (k : Nat) (x : Int32) : Lo → Nat → Int32 := fun p => if p = q then upd (V q) k x else V p
theorem upd2_same (V : Lo → Nat → Int32) (q : Lo) (k : Nat) (x : Int32) : upd2 V q k x q = upd (V q) k x := by simp [upd2]
theorem upd2_ne (V : Lo → Nat → Int32) {q p : Lo} (k : Nat) (x : Int32) (h : p ≠ q) : upd2 V q k x p = V p := by simp [upd2, h]
theorem fvs_upd (E : EV) (V : Nat → Int32) (x : Int32) : ∀ (l : List FS) (k i : Nat), l[i]? = some none → fvs E (upd V (k + i) x) k l = (fvs E V k l).set i (.int x)
  | [], _, _, h => by simp at h
  | g :: r, k, 0, h => by
    simp only [List.getElem?_cons_zero, Option.some.injEq] at h
    subst h
    rw [fvs, fvs, List.set_cons_zero]
    have e : ∀ (l : List FS) (m : Nat), k < m → fvs E (upd V (k + 0) x) m l = fvs E V m l := by
      intro l
      induction l with
      | nil => intro m _; rfl
      | cons a l ih =>
        intro m hm
        rw [fvs, fvs, ih (m + 1) (by omega)]
        congr 1
        rcases a with _ | c | q
        · simp [fv, upd, show ¬ m = k from by omega]
        · rfl
        · rfl
    rw [e r (k + 1) (by omega)]
    simp [fv, upd]
  | g :: r, k, i + 1, h => by
    rw [List.getElem?_cons_succ] at h
    rw [fvs, fvs, List.set_cons_succ, show k + (i + 1) = (k + 1) + i from by omega, fvs_upd E V x r (k + 1) i h]
    congr 1
    rcases g with _ | c | q
    · simp [fv, upd, show ¬ k = k + 1 + i from by omega]
    · rfl
    · rfl
def entry (E : EV) (σ : Sg) (q : Lo) : va_E := match shp q with
  | .inl x => .inr (x.1, fvs E (σ.1 q) 0 x.2)
  | .inr (0, n) => .inl (E.2.2 0, n, .inl (σ.1 q))
  | .inr (1, n) => .inl (E.2.2 1, n, .inl (σ.1 q))
  | .inr (_, n) => .inl (E.2.2 2, n, .inr (.inr (.inr (.inr (fun i => some (E.1 (2, 0, σ.2 i)))))))
def wsOf (E : EV) (σ : Sg) : va_W := allLo.map (fun q => (E.1 q, entry E σ q))
def AdOK (E : EV) : Prop := ∀ q ∈ allLo, ∀ p ∈ allLo, E.1 q = E.1 p → q = p
def AE (E : EV) (sz : Nat) : Nat → Prop := fun a => (∃ q ∈ allLo, a = E.1 q) ∨ sz ≤ a
def POK (σ : Sg) : Prop := ∀ i, σ.2 i < 8
def tysOf (E : EV) : List (ClassId × FieldType) := [(E.2.2 0, .int), (E.2.2 1, .char), (E.2.2 2, .object RX1)]
def KE (E : EV) (U : State) : Prop := va_K E.2.1 vwCl (tysOf E) U ∧ ∀ w ∈ nestWs, va_Nw w U
theorem allLo_len : allLo.length = 95 := by decide +kernel
theorem allLo_inj {i j : Nat} {q : Lo} (h1 : allLo[i]? = some q) (h2 : allLo[j]? = some q) : i = j := by
  have hi : i < 95 := by rw [← allLo_len]; exact (List.getElem?_eq_some_iff.mp h1).1
  have hj : j < 95 := by rw [← allLo_len]; exact (List.getElem?_eq_some_iff.mp h2).1
  exact (by decide +kernel : ∀ i, i < 95 → ∀ j, j < 95 → allLo[i]? = allLo[j]? → i = j) i hi j hj (h1.trans h2.symm)
theorem ws_get {E : EV} {σ : Sg} {i : Nat} {q : Lo} (h : allLo[i]? = some q) : (wsOf E σ)[i]? = some (E.1 q, entry E σ q) := by
  rw [wsOf, List.getElem?_map, h]
  rfl
theorem ws_getI {E : EV} {σ : Sg} {i : Nat} {x : Nat × va_E} (h : (wsOf E σ)[i]? = some x) : ∃ q, allLo[i]? = some q ∧ x = (E.1 q, entry E σ q) := by
  rw [wsOf, List.getElem?_map] at h
  cases hq : allLo[i]? with
  | none => rw [hq] at h; cases h
  | some q =>
    rw [hq] at h
    exact ⟨q, rfl, (Option.some.inj h).symm⟩
theorem ws_D {E : EV} {σ : Sg} {sz : Nat} (hE : AdOK E) : va_D (AE E sz) (wsOf E σ) := by
  refine ⟨fun i j p q hi hj hpq => ?_, fun k q hk => ?_⟩
  · obtain ⟨a, ha, rfl⟩ := ws_getI hi
    obtain ⟨b, hb, rfl⟩ := ws_getI hj
    have hab := hE a (List.mem_of_getElem? ha) b (List.mem_of_getElem? hb) hpq
    subst hab
    exact allLo_inj ha hb
  · obtain ⟨a, ha, rfl⟩ := ws_getI hk
    exact Or.inl ⟨a, List.mem_of_getElem? ha, rfl⟩
theorem ws_set {E : EV} {σ σ' : Sg} {i : Nat} {q : Lo} (h : allLo[i]? = some q) (hne : ∀ p, p ≠ q → entry E σ' p = entry E σ p) : (wsOf E σ).set i (E.1 q, entry E σ' q) = wsOf E σ' := by
  apply List.ext_getElem?
  intro k
  by_cases hk : k = i
  · subst hk
    have hl : k < (wsOf E σ).length := by
      rw [wsOf, List.length_map]
      exact (List.getElem?_eq_some_iff.mp h).1
    rw [List.getElem?_set_self hl, ws_get h]
  · rw [List.getElem?_set_ne (Ne.symm hk)]
    rw [wsOf, wsOf, List.getElem?_map, List.getElem?_map]
    cases hp : allLo[k]? with
    | none => rfl
    | some p =>
      have hpq : p ≠ q := by
        intro e
        subst e
        exact hk (allLo_inj hp h)
      show some (E.1 p, entry E σ p) = some (E.1 p, entry E σ' p)
      rw [hne p hpq]
theorem entry_ne {E : EV} {V : Lo → Nat → Int32} {P : Nat → Nat} {q p : Lo} {k : Nat} {x : Int32} (h : p ≠ q) : entry E (upd2 V q k x, P) p = entry E (V, P) p := by
  unfold entry
  rw [show (upd2 V q k x, P).1 p = V p from upd2_ne V k x h]
