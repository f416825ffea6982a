/-! locals -/
def gl : List (Option AV) → Nat → Option AV
  | [], _ => none
  | a :: _, 0 => a
  | _ :: r, k + 1 => gl r k
def asl (E : EV) : Nat → List (Option AV) → List (Nat × Value)
  | _, [] => []
  | k, none :: r => asl E (k + 1) r
  | k, some v :: r => (k, cv E v) :: asl E (k + 1) r
theorem asl_mem (E : EV) (j : Nat) (u : Value) : ∀ (loc : List (Option AV)) (k : Nat), (j, u) ∈ asl E k loc ↔ ∃ w, k ≤ j ∧ gl loc (j - k) = some w ∧ u = cv E w
  | [], k => by simp [asl, gl]
  | none :: r, k => by
    rw [asl, asl_mem E j u r (k + 1)]
    constructor
    · rintro ⟨w, h1, h2, h3⟩
      refine ⟨w, by omega, ?_, h3⟩
      rw [show j - k = (j - (k + 1)) + 1 from by omega]
      exact h2
    · rintro ⟨w, h1, h2, h3⟩
      rcases Nat.lt_or_ge k j with q | q
      · refine ⟨w, by omega, ?_, h3⟩
        rw [show j - k = (j - (k + 1)) + 1 from by omega] at h2
        exact h2
      · rw [show j - k = 0 from by omega] at h2
        simp [gl] at h2
  | some v :: r, k => by
    rw [asl, List.mem_cons, asl_mem E j u r (k + 1)]
    constructor
    · rintro (h | ⟨w, h1, h2, h3⟩)
      · cases h
        exact ⟨v, Nat.le_refl _, by rw [Nat.sub_self]; rfl, rfl⟩
      · refine ⟨w, by omega, ?_, h3⟩
        rw [show j - k = (j - (k + 1)) + 1 from by omega]
        exact h2
    · rintro ⟨w, h1, h2, h3⟩
      rcases Nat.lt_or_ge k j with q | q
      · refine Or.inr ⟨w, by omega, ?_, h3⟩
        rw [show j - k = (j - (k + 1)) + 1 from by omega] at h2
        exact h2
      · have e : j = k := by omega
        subst e
        rw [Nat.sub_self] at h2
        have e2 : v = w := Option.some.inj h2
        subst e2
        exact Or.inl (by rw [h3])
theorem LV_get {E : EV} {ls : Array Slot} {nL : Nat} {loc : List (Option AV)} (h : lv_has ls nL (asl E 0 loc)) {k : Nat} {v : AV} (hg : gl loc k = some v) : ls[k]? = some (.val (cv E v)) :=
  h.2.2 (k, cv E v) ((asl_mem E k _ loc 0).mpr ⟨v, Nat.zero_le _, hg, rfl⟩)
theorem gl_set (v : AV) : ∀ (loc : List (Option AV)) (i j : Nat), gl (loc.set i (some v)) j = if j = i ∧ i < loc.length then some v else gl loc j
  | [], i, j => by simp [gl]
  | a :: r, 0, 0 => by simp [gl]
  | a :: r, 0, j + 1 => by simp [gl]
  | a :: r, i + 1, 0 => by simp [gl]
  | a :: r, i + 1, j + 1 => by
    rw [List.set_cons_succ, gl, gl_set v r i j]
    simp [gl]
theorem gl_setN : ∀ (loc : List (Option AV)) (i j : Nat), gl (loc.set i none) j = if j = i ∧ i < loc.length then none else gl loc j
  | [], i, j => by simp [gl]
  | a :: r, 0, 0 => by simp [gl]
  | a :: r, 0, j + 1 => by simp [gl]
  | a :: r, i + 1, 0 => by simp [gl]
  | a :: r, i + 1, j + 1 => by
    rw [List.set_cons_succ, gl, gl_setN r i j]
    simp [gl]
def isL : Option AV → Bool
  | some (.inr (.inl _)) => true
  | _ => false
theorem cv_cat (E : EV) (v : AV) : ((cv E v).category == 2) = isL (some v) := by
  rcases v with x | x | o | q <;> rfl
def st1 (loc : List (Option AV)) (i : Nat) (v : AV) : Option (List (Option AV)) := match i with
  | 0 => some (loc.set 0 (some v))
  | j + 1 => cond (isL (gl loc j)) none (some (loc.set (j + 1) (some v)))
def st2 (loc : List (Option AV)) (i : Nat) (v : AV) : Option (List (Option AV)) := match i with
  | 0 => some ((loc.set 1 none).set 0 (some v))
  | j + 1 => cond (isL (gl loc j)) none (some ((loc.set (j + 2) none).set (j + 1) (some v)))
theorem st1_eq {loc loc' : List (Option AV)} {i : Nat} {v : AV} (h : st1 loc i v = some loc') : loc' = loc.set i (some v) ∧ ∀ j, j + 1 = i → isL (gl loc j) = false := by
  cases i with
  | zero =>
    simp only [st1, Option.some.injEq] at h
    exact ⟨h.symm, fun j hj => by omega⟩
  | succ j =>
    rw [st1] at h
    cases hL : isL (gl loc j) with
    | true => rw [hL] at h; cases h
    | false =>
      rw [hL] at h
      simp only [cond_false, Option.some.injEq] at h
      exact ⟨h.symm, fun k hk => by rw [show k = j from by omega]; exact hL⟩
theorem st2_eq {loc loc' : List (Option AV)} {i : Nat} {v : AV} (h : st2 loc i v = some loc') : loc' = (loc.set (i + 1) none).set i (some v) ∧ ∀ j, j + 1 = i → isL (gl loc j) = false := by
  cases i with
  | zero =>
    simp only [st2, Option.some.injEq] at h
    exact ⟨h.symm, fun j hj => by omega⟩
  | succ j =>
    rw [st2] at h
    cases hL : isL (gl loc j) with
    | true => rw [hL] at h; cases h
    | false =>
      rw [hL] at h
      simp only [cond_false, Option.some.injEq] at h
      exact ⟨h.symm, fun k hk => by rw [show k = j from by omega]; exact hL⟩
theorem st1_sub {E : EV} {ls : Array Slot} {nL : Nat} {loc loc' : List (Option AV)} {i : Nat} {v : AV} (h : st1 loc i v = some loc') (hl : lv_has ls nL ((i, cv E v) :: (asl E 0 loc).filter (fun q => !(q.1 == i) && !(q.1 + 1 == i && q.2.category == 2)))) : lv_has ls nL (asl E 0 loc') := by
  obtain ⟨rfl, hp⟩ := st1_eq h
  refine ⟨hl.1, hl.2.1, fun q hq => hl.2.2 q ?_⟩
  obtain ⟨j, u⟩ := q
  obtain ⟨w, -, h2, rfl⟩ := (asl_mem E j u _ 0).mp hq
  rw [Nat.sub_zero, gl_set] at h2
  by_cases hj : j = i
  · subst hj
    by_cases hlt : j < loc.length
    · rw [if_pos ⟨rfl, hlt⟩] at h2
      have e := Option.some.inj h2
      subst e
      exact List.mem_cons_self
    · have hz : ∀ (l : List (Option AV)) (j : Nat), l.length ≤ j → gl l j = none := by
        intro l
        induction l with
        | nil => intro j _; rfl
        | cons a l ih =>
          intro j hj
          cases j with
          | zero => simp at hj
          | succ j => exact ih j (by simpa using hj)
      rw [if_neg (fun x => hlt x.2), hz loc j (by omega)] at h2
      cases h2
  · rw [if_neg (fun x => hj x.1)] at h2
    refine List.mem_cons_of_mem _ (List.mem_filter.mpr ⟨(asl_mem E j _ loc 0).mpr ⟨w, Nat.zero_le _, h2, rfl⟩, ?_⟩)
    rw [cv_cat]
    by_cases hj1 : j + 1 = i
    · have := hp j hj1
      rw [h2] at this
      simp [this, hj]
    · simp [hj, hj1]
theorem st2_sub {E : EV} {ls : Array Slot} {nL : Nat} {loc loc' : List (Option AV)} {i : Nat} {v : AV} (h : st2 loc i v = some loc') (hl : lv_has ls nL ((i, cv E v) :: (asl E 0 loc).filter (fun q => !(q.1 == i) && (!(q.1 == i + 1) && !(q.1 + 1 == i && q.2.category == 2))))) (hi : i + 1 < loc.length) : lv_has ls nL (asl E 0 loc') := by
  obtain ⟨rfl, hp⟩ := st2_eq h
  refine ⟨hl.1, hl.2.1, fun q hq => hl.2.2 q ?_⟩
  obtain ⟨j, u⟩ := q
  obtain ⟨w, -, h2, rfl⟩ := (asl_mem E j u _ 0).mp hq
  rw [Nat.sub_zero, gl_set, List.length_set] at h2
  by_cases hj : j = i
  · subst hj
    rw [if_pos ⟨rfl, by omega⟩] at h2
    have e := Option.some.inj h2
    subst e
    exact List.mem_cons_self
  · rw [if_neg (fun x => hj x.1), gl_setN] at h2
    by_cases hj2 : j = i + 1
    · rw [if_pos ⟨hj2, hi⟩] at h2
      cases h2
    · rw [if_neg (fun x => hj2 x.1)] at h2
      refine List.mem_cons_of_mem _ (List.mem_filter.mpr ⟨(asl_mem E j _ loc 0).mpr ⟨w, Nat.zero_le _, h2, rfl⟩, ?_⟩)
      rw [cv_cat]
      by_cases hj1 : j + 1 = i
      · have := hp j hj1
        rw [h2] at this
        simp [this, hj, hj2]
      · simp [hj, hj1, hj2]
theorem mem_set {loc : List (Option AV)} {i : Nat} {a b : Option AV} (h : a ∈ loc.set i b) : a = b ∨ a ∈ loc := (List.mem_or_eq_of_mem_set h).symm
theorem ok_set {loc : List (Option AV)} {i : Nat} {v : AV} (h : ∀ w, some w ∈ loc → okV w) (hv : okV v) : ∀ w, some w ∈ loc.set i (some v) → okV w := fun w hw => by
  rcases mem_set hw with q | q
  · cases q; exact hv
  · exact h w q
theorem ok_setN {loc : List (Option AV)} {i : Nat} (h : ∀ w, some w ∈ loc → okV w) : ∀ w, some w ∈ loc.set i none → okV w := fun w hw => by
  rcases mem_set hw with q | q
  · cases q
  · exact h w q
theorem ok_gl {v : AV} : ∀ {loc : List (Option AV)} {k : Nat}, (∀ w, some w ∈ loc → okV w) → gl loc k = some v → okV v
  | [], _, _, hg => by simp [gl] at hg
  | a :: r, 0, h, hg => h v (by rw [show a = some v from hg]; exact List.mem_cons_self)
  | a :: r, k + 1, h, hg => ok_gl (loc := r) (k := k) (fun w hw => h w (List.mem_cons_of_mem _ hw)) hg
theorem ok_tl {a : AV} {r : List AV} (h : ∀ v ∈ a :: r, okV v) : ∀ v ∈ r, okV v := fun v hv => h v (List.mem_cons_of_mem _ hv)
theorem ok_hd {a : AV} {r : List AV} (h : ∀ v ∈ a :: r, okV v) : okV a := h a List.mem_cons_self
theorem ok_cn {a : AV} {r : List AV} (ha : okV a) (h : ∀ v ∈ r, okV v) : ∀ v ∈ a :: r, okV v := fun v hv => by
  rcases List.mem_cons.mp hv with rfl | q
  · exact ha
  · exact h v q
/-! the judgement -/
def Rm (k : Nat) : Room := { frames := k, cells := 0, slots := 0, locals := 32 * k }
def CX (own : String) (cc : ByteArray) (nL : Nat) (ret : Option FieldType) (E : EV) (p : Program) (s : State) (m : MethodId) (args : Array Value) (meth : Method) (c : Code) : Prop :=
  p.tables.exec = Jvm.exec ∧ c.code = cc ∧ c.maxLocals = nL ∧ s.vm.findClass own = some m.cls ∧ (∀ w ∈ TG, w.before args s = true) ∧ meth.sig.returnType = ret ∧ meth.locks = false ∧ KE E s ∧ AdOK E
def BQ (E : EV) (σ : Sg) (t : State) : Prop := POK σ ∧ va_P E.2.1 vwCl (wsOf E σ) t.heap
def QK (ret : Option FieldType) (post : Option AV → Sg → Prop) (E : EV) (A : Nat → Prop) : Array Value → State → Outcome → State → Prop := match ret with
  | none => va_Qv (fun σ : Sg => post none σ) (BQ E) A
  | some (.object _) => va_Qq (fun (r : Option Nat) (σ : Sg) => ∃ o : Option Lo, r = o.map E.1 ∧ okV (.inr (.inr o)) ∧ post (some (.inr (.inr o))) σ) (BQ E) A
  | some _ => va_Qi (fun (r : Int32) (σ : Sg) => post (some (vI r)) σ) (BQ E) A
def G (l : Launch) (R : Room) (own : String) (cc : ByteArray) (nL : Nat) (ret : Option FieldType) (post : Option AV → Sg → Prop) (pc : Nat) (loc : List (Option AV)) (st : List AV) (σ : Sg) : Prop :=
  ∀ (E : EV) (p : Program) (e : Env) (s : State) (m : MethodId) (args : Array Value) (below : List Frame) (meth : Method) (c : Code) (H : Heap) (locs : List Jvm.Loc) (ls : Array Slot),
    CX own cc nL ret E p s m args meth c → POK σ → (∀ v ∈ st, okV v) → (∀ v, some v ∈ loc → okV v) → loc.length = nL → lv_has ls nL (asl E 0 loc) → va_P E.2.1 vwCl (wsOf E σ) H → va_S (AE E s.heap.size) s.heap H locs →
    W p l e R s m args below meth c H locs 0 0 (MQ below (QK ret post E (AE E s.heap.size)) args s 0 0 (AE E s.heap.size)) (F0 m pc ls (st.map (cv E)))
section ROWS
variable {l : Launch} {R : Room} {own : String} {cc : ByteArray} {nL : Nat} {ret : Option FieldType} {post : Option AV → Sg → Prop} {pc : Nat} {loc : List (Option AV)} {st : List AV} {σ : Sg}
theorem g_eq {pc' : Nat} {loc' : List (Option AV)} {st' : List AV} {σ' : Sg} (h1 : pc = pc') (h2 : loc = loc') (h3 : st = st') (h4 : σ = σ') (k : G l R own cc nL ret post pc' loc' st' σ') : G l R own cc nL ret post pc loc st σ := by
  subst h1; subst h2; subst h3; subst h4; exact k
-- fewer locals
def lsub : List (Option AV) → List (Option AV) → Prop
  | [], [] => True
  | a :: r, b :: t => (b = none ∨ b = a) ∧ lsub r t
  | _, _ => False
theorem lsub_gl {v : AV} : ∀ {a b : List (Option AV)} {j : Nat}, lsub a b → gl b j = some v → gl a j = some v
  | [], [], _, _, h => h
  | x :: r, y :: t, 0, h, hg => by
    rcases h.1 with q | q
    · rw [q] at hg; cases hg
    · rw [← q]; exact hg
  | x :: r, y :: t, j + 1, h, hg => lsub_gl (a := r) (b := t) (j := j) h.2 hg
  | [], _ :: _, _, h, _ => h.elim
  | _ :: _, [], _, h, _ => h.elim
theorem lsub_len : ∀ {a b : List (Option AV)}, lsub a b → a.length = b.length
  | [], [], _ => rfl
  | _ :: r, _ :: t, h => by rw [List.length_cons, List.length_cons, lsub_len (a := r) (b := t) h.2]
  | [], _ :: _, h => h.elim
  | _ :: _, [], h => h.elim
theorem lsub_ok : ∀ {a b : List (Option AV)}, lsub a b → (∀ v, some v ∈ a → okV v) → ∀ v, some v ∈ b → okV v
  | [], [], _, h => h
  | x :: r, y :: t, hs, h => fun v hv => by
    rcases List.mem_cons.mp hv with q | q
    · rcases hs.1 with z | z
      · rw [z] at q; cases q
      · exact h v (by rw [q, z]; exact List.mem_cons_self)
    · exact lsub_ok (a := r) (b := t) hs.2 (fun w hw => h w (List.mem_cons_of_mem _ hw)) v q
  | [], _ :: _, h, _ => h.elim
  | _ :: _, [], h, _ => h.elim
theorem g_sub {loc' : List (Option AV)} (h : lsub loc loc') (k : G l R own cc nL ret post pc loc' st σ) : G l R own cc nL ret post pc loc st σ := by
  intro E p e s m args below meth c H locs ls C hσ hst hloc hlen hlv hP hS
  refine k E p e s m args below meth c H locs ls C hσ hst (lsub_ok h hloc) ((lsub_len h).symm.trans hlen) ⟨hlv.1, hlv.2.1, fun q hq => ?_⟩ hP hS
  obtain ⟨j, u⟩ := q
  obtain ⟨w, h1, h2, h3⟩ := (asl_mem E j u _ 0).mp hq
  exact hlv.2.2 (j, u) ((asl_mem E j u _ 0).mpr ⟨w, h1, lsub_gl h h2, h3⟩)
theorem g_iload_n {i : Fin 4} {x : Int32} (hd : decode cc pc = .ok (.iload_n i, 1)) (hl : gl loc i = some (vI x)) (k : G l R own cc nL ret post (pc + 1) loc (vI x :: st) σ) : G l R own cc nL ret post pc loc (st) σ := by
  intro E p e s m args below meth c H locs ls C hσ hst hloc hlen hlv hP hS
  exact lv_iload_n C.1 C.2.1 hd rfl (LV_get hlv hl) (k E p e s m args below meth c H locs ls C hσ (ok_cn (a := vI x) trivial hst) hloc hlen hlv hP hS)
theorem g_iload {i : Nat} {x : Int32} (hd : decode cc pc = .ok (.iload i, 2)) (hl : gl loc i = some (vI x)) (k : G l R own cc nL ret post (pc + 2) loc (vI x :: st) σ) : G l R own cc nL ret post pc loc (st) σ := by
  intro E p e s m args below meth c H locs ls C hσ hst hloc hlen hlv hP hS
  exact lv_iload C.1 C.2.1 hd (LV_get hlv hl) (k E p e s m args below meth c H locs ls C hσ (ok_cn (a := vI x) trivial hst) hloc hlen hlv hP hS)
theorem g_lload_n {i : Fin 4} {x : Int64} (hd : decode cc pc = .ok (.lload_n i, 1)) (hl : gl loc i = some (vL x)) (k : G l R own cc nL ret post (pc + 1) loc (vL x :: st) σ) : G l R own cc nL ret post pc loc (st) σ := by
  intro E p e s m args below meth c H locs ls C hσ hst hloc hlen hlv hP hS
  exact lv_lload_n C.1 C.2.1 hd rfl (LV_get hlv hl) (k E p e s m args below meth c H locs ls C hσ (ok_cn (a := vL x) trivial hst) hloc hlen hlv hP hS)
theorem g_lload {i : Nat} {x : Int64} (hd : decode cc pc = .ok (.lload i, 2)) (hl : gl loc i = some (vL x)) (k : G l R own cc nL ret post (pc + 2) loc (vL x :: st) σ) : G l R own cc nL ret post pc loc (st) σ := by
  intro E p e s m args below meth c H locs ls C hσ hst hloc hlen hlv hP hS
  exact lv_lload C.1 C.2.1 hd (LV_get hlv hl) (k E p e s m args below meth c H locs ls C hσ (ok_cn (a := vL x) trivial hst) hloc hlen hlv hP hS)
theorem g_aload_n {i : Fin 4} {q : Lo} (hd : decode cc pc = .ok (.aload_n i, 1)) (hl : gl loc i = some (vR q)) (k : G l R own cc nL ret post (pc + 1) loc (vR q :: st) σ) : G l R own cc nL ret post pc loc (st) σ := by
  intro E p e s m args below meth c H locs ls C hσ hst hloc hlen hlv hP hS
  exact lv_aload_n C.1 C.2.1 hd rfl (LV_get hlv hl) (k E p e s m args below meth c H locs ls C hσ (ok_cn (ok_gl hloc hl) hst) hloc hlen hlv hP hS)
theorem g_aload_nN {i : Fin 4} (hd : decode cc pc = .ok (.aload_n i, 1)) (hl : gl loc i = some vN) (k : G l R own cc nL ret post (pc + 1) loc (vN :: st) σ) : G l R own cc nL ret post pc loc (st) σ := by
  intro E p e s m args below meth c H locs ls C hσ hst hloc hlen hlv hP hS
  exact lv_aload_nN C.1 C.2.1 hd rfl (LV_get hlv hl) (k E p e s m args below meth c H locs ls C hσ (ok_cn (a := vN) trivial hst) hloc hlen hlv hP hS)
theorem g_iconst {n : Int} (hd : decode cc pc = .ok (.iconst n, 1))  (k : G l R own cc nL ret post (pc + 1) loc (vI (Int32.ofInt n) :: st) σ) : G l R own cc nL ret post pc loc (st) σ := by
  intro E p e s m args below meth c H locs ls C hσ hst hloc hlen hlv hP hS
  exact lv_iconst C.1 C.2.1 hd rfl (k E p e s m args below meth c H locs ls C hσ (ok_cn (a := vI _) trivial hst) hloc hlen hlv hP hS)
theorem g_bipush {n : Int} (hd : decode cc pc = .ok (.bipush n, 2))  (k : G l R own cc nL ret post (pc + 2) loc (vI (Int8.ofInt n).toInt32 :: st) σ) : G l R own cc nL ret post pc loc (st) σ := by
  intro E p e s m args below meth c H locs ls C hσ hst hloc hlen hlv hP hS
  exact lv_bipush C.1 C.2.1 hd rfl (k E p e s m args below meth c H locs ls C hσ (ok_cn (a := vI _) trivial hst) hloc hlen hlv hP hS)
theorem g_sipush {n : Int} (hd : decode cc pc = .ok (.sipush n, 3))  (k : G l R own cc nL ret post (pc + 3) loc (vI (Int16.ofInt n).toInt32 :: st) σ) : G l R own cc nL ret post pc loc (st) σ := by
  intro E p e s m args below meth c H locs ls C hσ hst hloc hlen hlv hP hS
  exact lv_sipush C.1 C.2.1 hd rfl (k E p e s m args below meth c H locs ls C hσ (ok_cn (a := vI _) trivial hst) hloc hlen hlv hP hS)
theorem g_lconst {n : Fin 2} (hd : decode cc pc = .ok (.lconst n, 1))  (k : G l R own cc nL ret post (pc + 1) loc (vL (Int64.ofNat (n : Nat)) :: st) σ) : G l R own cc nL ret post pc loc (st) σ := by
  intro E p e s m args below meth c H locs ls C hσ hst hloc hlen hlv hP hS
  exact lv_lconst C.1 C.2.1 hd rfl (k E p e s m args below meth c H locs ls C hσ (ok_cn (a := vL _) trivial hst) hloc hlen hlv hP hS)
theorem g_null  (hd : decode cc pc = .ok (.aconst_null, 1))  (k : G l R own cc nL ret post (pc + 1) loc (vN :: st) σ) : G l R own cc nL ret post pc loc (st) σ := by
  intro E p e s m args below meth c H locs ls C hσ hst hloc hlen hlv hP hS
  exact lv_null C.1 C.2.1 hd  (k E p e s m args below meth c H locs ls C hσ (ok_cn (a := vN) trivial hst) hloc hlen hlv hP hS)
theorem g_iadd {x y : Int32} (hd : decode cc pc = .ok (.iadd, 1))  (k : G l R own cc nL ret post (pc + 1) loc (vI (x + y) :: st) σ) : G l R own cc nL ret post pc loc (vI y :: vI x :: st) σ := by
  intro E p e s m args below meth c H locs ls C hσ hst hloc hlen hlv hP hS
  exact lv_iadd C.1 C.2.1 hd  (k E p e s m args below meth c H locs ls C hσ (ok_cn (a := vI _) trivial (ok_tl (ok_tl hst))) hloc hlen hlv hP hS)
theorem g_isub {x y : Int32} (hd : decode cc pc = .ok (.isub, 1))  (k : G l R own cc nL ret post (pc + 1) loc (vI (x - y) :: st) σ) : G l R own cc nL ret post pc loc (vI y :: vI x :: st) σ := by
  intro E p e s m args below meth c H locs ls C hσ hst hloc hlen hlv hP hS
  exact lv_isub C.1 C.2.1 hd  (k E p e s m args below meth c H locs ls C hσ (ok_cn (a := vI _) trivial (ok_tl (ok_tl hst))) hloc hlen hlv hP hS)
theorem g_imul {x y : Int32} (hd : decode cc pc = .ok (.imul, 1))  (k : G l R own cc nL ret post (pc + 1) loc (vI (x * y) :: st) σ) : G l R own cc nL ret post pc loc (vI y :: vI x :: st) σ := by
  intro E p e s m args below meth c H locs ls C hσ hst hloc hlen hlv hP hS
  exact lv_imul C.1 C.2.1 hd  (k E p e s m args below meth c H locs ls C hσ (ok_cn (a := vI _) trivial (ok_tl (ok_tl hst))) hloc hlen hlv hP hS)
theorem g_iand {x y : Int32} (hd : decode cc pc = .ok (.iand, 1))  (k : G l R own cc nL ret post (pc + 1) loc (vI (x &&& y) :: st) σ) : G l R own cc nL ret post pc loc (vI y :: vI x :: st) σ := by
  intro E p e s m args below meth c H locs ls C hσ hst hloc hlen hlv hP hS
  exact lv_iand C.1 C.2.1 hd  (k E p e s m args below meth c H locs ls C hσ (ok_cn (a := vI _) trivial (ok_tl (ok_tl hst))) hloc hlen hlv hP hS)
theorem g_ior {x y : Int32} (hd : decode cc pc = .ok (.ior, 1))  (k : G l R own cc nL ret post (pc + 1) loc (vI (x ||| y) :: st) σ) : G l R own cc nL ret post pc loc (vI y :: vI x :: st) σ := by
  intro E p e s m args below meth c H locs ls C hσ hst hloc hlen hlv hP hS
  exact lv_ior C.1 C.2.1 hd  (k E p e s m args below meth c H locs ls C hσ (ok_cn (a := vI _) trivial (ok_tl (ok_tl hst))) hloc hlen hlv hP hS)
theorem g_ishl {x y : Int32} (hd : decode cc pc = .ok (.ishl, 1))  (k : G l R own cc nL ret post (pc + 1) loc (vI (x <<< (y &&& 31)) :: st) σ) : G l R own cc nL ret post pc loc (vI y :: vI x :: st) σ := by
  intro E p e s m args below meth c H locs ls C hσ hst hloc hlen hlv hP hS
  exact lv_ishl C.1 C.2.1 hd  (k E p e s m args below meth c H locs ls C hσ (ok_cn (a := vI _) trivial (ok_tl (ok_tl hst))) hloc hlen hlv hP hS)
theorem g_ishr {x y : Int32} (hd : decode cc pc = .ok (.ishr, 1))  (k : G l R own cc nL ret post (pc + 1) loc (vI (x >>> (y &&& 31)) :: st) σ) : G l R own cc nL ret post pc loc (vI y :: vI x :: st) σ := by
  intro E p e s m args below meth c H locs ls C hσ hst hloc hlen hlv hP hS
  exact lv_ishr C.1 C.2.1 hd  (k E p e s m args below meth c H locs ls C hσ (ok_cn (a := vI _) trivial (ok_tl (ok_tl hst))) hloc hlen hlv hP hS)
theorem g_idiv {x y : Int32} (hd : decode cc pc = .ok (.idiv, 1)) (hy : ¬ y = 0) (k : G l R own cc nL ret post (pc + 1) loc (vI (x / y) :: st) σ) : G l R own cc nL ret post pc loc (vI y :: vI x :: st) σ := by
  intro E p e s m args below meth c H locs ls C hσ hst hloc hlen hlv hP hS
  exact lv_idiv C.1 C.2.1 hd hy (k E p e s m args below meth c H locs ls C hσ (ok_cn (a := vI _) trivial (ok_tl (ok_tl hst))) hloc hlen hlv hP hS)
theorem g_irem {x y : Int32} (hd : decode cc pc = .ok (.irem, 1)) (hy : ¬ y = 0) (k : G l R own cc nL ret post (pc + 1) loc (vI (x - x / y * y) :: st) σ) : G l R own cc nL ret post pc loc (vI y :: vI x :: st) σ := by
  intro E p e s m args below meth c H locs ls C hσ hst hloc hlen hlv hP hS
  exact lv_irem C.1 C.2.1 hd hy (k E p e s m args below meth c H locs ls C hσ (ok_cn (a := vI _) trivial (ok_tl (ok_tl hst))) hloc hlen hlv hP hS)
theorem g_ineg {x : Int32} (hd : decode cc pc = .ok (.ineg, 1))  (k : G l R own cc nL ret post (pc + 1) loc (vI (-x) :: st) σ) : G l R own cc nL ret post pc loc (vI x :: st) σ := by
  intro E p e s m args below meth c H locs ls C hσ hst hloc hlen hlv hP hS
  exact lv_ineg C.1 C.2.1 hd  (k E p e s m args below meth c H locs ls C hσ (ok_cn (a := vI _) trivial (ok_tl hst)) hloc hlen hlv hP hS)
theorem g_land {x y : Int64} (hd : decode cc pc = .ok (.land, 1))  (k : G l R own cc nL ret post (pc + 1) loc (vL (x &&& y) :: st) σ) : G l R own cc nL ret post pc loc (vL y :: vL x :: st) σ := by
  intro E p e s m args below meth c H locs ls C hσ hst hloc hlen hlv hP hS
  exact lv_land C.1 C.2.1 hd  (k E p e s m args below meth c H locs ls C hσ (ok_cn (a := vL _) trivial (ok_tl (ok_tl hst))) hloc hlen hlv hP hS)
theorem g_lor {x y : Int64} (hd : decode cc pc = .ok (.lor, 1))  (k : G l R own cc nL ret post (pc + 1) loc (vL (x ||| y) :: st) σ) : G l R own cc nL ret post pc loc (vL y :: vL x :: st) σ := by
  intro E p e s m args below meth c H locs ls C hσ hst hloc hlen hlv hP hS
  exact lv_lor C.1 C.2.1 hd  (k E p e s m args below meth c H locs ls C hσ (ok_cn (a := vL _) trivial (ok_tl (ok_tl hst))) hloc hlen hlv hP hS)
theorem g_lcmp {x y : Int64} (hd : decode cc pc = .ok (.lcmp, 1))  (k : G l R own cc nL ret post (pc + 1) loc (vI (lg_cmp x y) :: st) σ) : G l R own cc nL ret post pc loc (vL y :: vL x :: st) σ := by
  intro E p e s m args below meth c H locs ls C hσ hst hloc hlen hlv hP hS
  exact W.lcmp C.1 C.2.1 hd  (k E p e s m args below meth c H locs ls C hσ (ok_cn (a := vI _) trivial (ok_tl (ok_tl hst))) hloc hlen hlv hP hS)
theorem g_lushr {x : Int64} {y : Int32} (hd : decode cc pc = .ok (.lushr, 1))  (k : G l R own cc nL ret post (pc + 1) loc (vL ((x.toUInt64 >>> (y.toInt64.toUInt64 &&& Int64.toUInt64 63)).toInt64) :: st) σ) : G l R own cc nL ret post pc loc (vI y :: vL x :: st) σ := by
  intro E p e s m args below meth c H locs ls C hσ hst hloc hlen hlv hP hS
  exact lv_lushr C.1 C.2.1 hd rfl (k E p e s m args below meth c H locs ls C hσ (ok_cn (a := vL _) trivial (ok_tl (ok_tl hst))) hloc hlen hlv hP hS)
theorem g_lshl {x : Int64} {y : Int32} (hd : decode cc pc = .ok (.lshl, 1))  (k : G l R own cc nL ret post (pc + 1) loc (vL (x <<< (y.toInt64 &&& 63)) :: st) σ) : G l R own cc nL ret post pc loc (vI y :: vL x :: st) σ := by
  intro E p e s m args below meth c H locs ls C hσ hst hloc hlen hlv hP hS
  exact lv_lshl C.1 C.2.1 hd rfl (k E p e s m args below meth c H locs ls C hσ (ok_cn (a := vL _) trivial (ok_tl (ok_tl hst))) hloc hlen hlv hP hS)
theorem g_lshr {x : Int64} {y : Int32} (hd : decode cc pc = .ok (.lshr, 1))  (k : G l R own cc nL ret post (pc + 1) loc (vL (x >>> (y.toInt64 &&& 63)) :: st) σ) : G l R own cc nL ret post pc loc (vI y :: vL x :: st) σ := by
  intro E p e s m args below meth c H locs ls C hσ hst hloc hlen hlv hP hS
  exact lv_lshr C.1 C.2.1 hd rfl (k E p e s m args below meth c H locs ls C hσ (ok_cn (a := vL _) trivial (ok_tl (ok_tl hst))) hloc hlen hlv hP hS)
theorem g_i2l {x : Int32} (hd : decode cc pc = .ok (.i2l, 1))  (k : G l R own cc nL ret post (pc + 1) loc (vL x.toInt64 :: st) σ) : G l R own cc nL ret post pc loc (vI x :: st) σ := by
  intro E p e s m args below meth c H locs ls C hσ hst hloc hlen hlv hP hS
  exact lv_i2l C.1 C.2.1 hd rfl (k E p e s m args below meth c H locs ls C hσ (ok_cn (a := vL _) trivial (ok_tl hst)) hloc hlen hlv hP hS)
theorem g_l2i {x : Int64} (hd : decode cc pc = .ok (.l2i, 1))  (k : G l R own cc nL ret post (pc + 1) loc (vI x.toInt32 :: st) σ) : G l R own cc nL ret post pc loc (vL x :: st) σ := by
  intro E p e s m args below meth c H locs ls C hσ hst hloc hlen hlv hP hS
  exact lv_l2i C.1 C.2.1 hd rfl (k E p e s m args below meth c H locs ls C hσ (ok_cn (a := vI _) trivial (ok_tl hst)) hloc hlen hlv hP hS)
theorem g_i2c {x : Int32} (hd : decode cc pc = .ok (.i2c, 1))  (k : G l R own cc nL ret post (pc + 1) loc (vI (x.toUInt32 % 65536).toInt32 :: st) σ) : G l R own cc nL ret post pc loc (vI x :: st) σ := by
  intro E p e s m args below meth c H locs ls C hσ hst hloc hlen hlv hP hS
  exact lv_i2c C.1 C.2.1 hd rfl (k E p e s m args below meth c H locs ls C hσ (ok_cn (a := vI _) trivial (ok_tl hst)) hloc hlen hlv hP hS)
theorem g_dupI {x : Int32} (hd : decode cc pc = .ok (.dup, 1))  (k : G l R own cc nL ret post (pc + 1) loc (vI x :: vI x :: st) σ) : G l R own cc nL ret post pc loc (vI x :: st) σ := by
  intro E p e s m args below meth c H locs ls C hσ hst hloc hlen hlv hP hS
  exact lv_dup C.1 C.2.1 hd rfl (k E p e s m args below meth c H locs ls C hσ (ok_cn (a := vI _) trivial hst) hloc hlen hlv hP hS)
theorem g_dupR {q : Lo} (hd : decode cc pc = .ok (.dup, 1))  (k : G l R own cc nL ret post (pc + 1) loc (vR q :: vR q :: st) σ) : G l R own cc nL ret post pc loc (vR q :: st) σ := by
  intro E p e s m args below meth c H locs ls C hσ hst hloc hlen hlv hP hS
  exact lv_dup C.1 C.2.1 hd rfl (k E p e s m args below meth c H locs ls C hσ (ok_cn (ok_hd hst) hst) hloc hlen hlv hP hS)
theorem g_dup2 {x : Int32} {q : Lo} (hd : decode cc pc = .ok (.dup2, 1))  (k : G l R own cc nL ret post (pc + 1) loc (vI x :: vR q :: vI x :: vR q :: st) σ) : G l R own cc nL ret post pc loc (vI x :: vR q :: st) σ := by
  intro E p e s m args below meth c H locs ls C hσ hst hloc hlen hlv hP hS
  exact lv_dup2_11 C.1 C.2.1 hd rfl rfl (k E p e s m args below meth c H locs ls C hσ (ok_cn (a := vI _) trivial (ok_cn (ok_hd (ok_tl hst)) hst)) hloc hlen hlv hP hS)
theorem g_popI {x : Int32} (hd : decode cc pc = .ok (.pop, 1))  (k : G l R own cc nL ret post (pc + 1) loc (st) σ) : G l R own cc nL ret post pc loc (vI x :: st) σ := by
  intro E p e s m args below meth c H locs ls C hσ hst hloc hlen hlv hP hS
  exact lv_pop C.1 C.2.1 hd rfl (k E p e s m args below meth c H locs ls C hσ (ok_tl hst) hloc hlen hlv hP hS)
theorem g_istore_n {i : Fin 4} {x : Int32} {loc' : List (Option AV)} (hd : decode cc pc = .ok (.istore_n i, 1))  (hi : ((i : Nat) < nL)) (hs : st1 loc i (vI x) = some loc') (k : G l R own cc nL ret post (pc + 1) loc' (st) σ) : G l R own cc nL ret post pc loc (vI x :: st) σ := by
  intro E p e s m args below meth c H locs ls C hσ hst hloc hlen hlv hP hS
  refine lv_istore_n C.1 C.2.1 hd rfl hlv hi rfl (fun ls hl => ?_)
  refine k E p e s m args below meth c H locs ls C hσ (ok_tl hst) ?_ ?_ (st1_sub hs hl) hP hS
  · rw [(st1_eq hs).1]; exact ok_set hloc (v := vI x) trivial
  · rw [(st1_eq hs).1, List.length_set]; exact hlen
theorem g_istore {i : Nat} {x : Int32} {loc' : List (Option AV)} (hd : decode cc pc = .ok (.istore i, 2))  (hi : ((i : Nat) < nL)) (hs : st1 loc i (vI x) = some loc') (k : G l R own cc nL ret post (pc + 2) loc' (st) σ) : G l R own cc nL ret post pc loc (vI x :: st) σ := by
  intro E p e s m args below meth c H locs ls C hσ hst hloc hlen hlv hP hS
  refine lv_istore C.1 C.2.1 hd hlv hi rfl (fun ls hl => ?_)
  refine k E p e s m args below meth c H locs ls C hσ (ok_tl hst) ?_ ?_ (st1_sub hs hl) hP hS
  · rw [(st1_eq hs).1]; exact ok_set hloc (v := vI x) trivial
  · rw [(st1_eq hs).1, List.length_set]; exact hlen
theorem g_lstore_n {i : Fin 4} {x : Int64} {loc' : List (Option AV)} (hd : decode cc pc = .ok (.lstore_n i, 1))  (hi : ((i : Nat) + 1 < nL)) (hs : st2 loc i (vL x) = some loc') (k : G l R own cc nL ret post (pc + 1) loc' (st) σ) : G l R own cc nL ret post pc loc (vL x :: st) σ := by
  intro E p e s m args below meth c H locs ls C hσ hst hloc hlen hlv hP hS
  refine lv_lstore_n C.1 C.2.1 hd rfl hlv hi rfl (fun ls hl => ?_)
  refine k E p e s m args below meth c H locs ls C hσ (ok_tl hst) ?_ ?_ (st2_sub hs hl (by omega)) hP hS
  · rw [(st2_eq hs).1]; exact ok_set (ok_setN hloc) (v := vL x) trivial
  · rw [(st2_eq hs).1, List.length_set, List.length_set]; exact hlen
theorem g_lstore {i : Nat} {x : Int64} {loc' : List (Option AV)} (hd : decode cc pc = .ok (.lstore i, 2))  (hi : ((i : Nat) + 1 < nL)) (hs : st2 loc i (vL x) = some loc') (k : G l R own cc nL ret post (pc + 2) loc' (st) σ) : G l R own cc nL ret post pc loc (vL x :: st) σ := by
  intro E p e s m args below meth c H locs ls C hσ hst hloc hlen hlv hP hS
  refine lv_lstore C.1 C.2.1 hd hlv hi rfl (fun ls hl => ?_)
  refine k E p e s m args below meth c H locs ls C hσ (ok_tl hst) ?_ ?_ (st2_sub hs hl (by omega)) hP hS
  · rw [(st2_eq hs).1]; exact ok_set (ok_setN hloc) (v := vL x) trivial
  · rw [(st2_eq hs).1, List.length_set, List.length_set]; exact hlen
theorem g_astore_n {i : Fin 4} {q : Lo} {loc' : List (Option AV)} (hd : decode cc pc = .ok (.astore_n i, 1))  (hi : ((i : Nat) < nL)) (hs : st1 loc i (vR q) = some loc') (k : G l R own cc nL ret post (pc + 1) loc' (st) σ) : G l R own cc nL ret post pc loc (vR q :: st) σ := by
  intro E p e s m args below meth c H locs ls C hσ hst hloc hlen hlv hP hS
  refine lv_astore_n C.1 C.2.1 hd rfl hlv hi rfl (fun ls hl => ?_)
  refine k E p e s m args below meth c H locs ls C hσ (ok_tl hst) ?_ ?_ (st1_sub hs hl) hP hS
  · rw [(st1_eq hs).1]; exact ok_set hloc (ok_hd hst)
  · rw [(st1_eq hs).1, List.length_set]; exact hlen
theorem g_iinc {i : Nat} {n : Int} {x : Int32} {loc' : List (Option AV)} (hd : decode cc pc = .ok (.iinc i n, 3)) (hl : gl loc i = some (vI x)) (hi : i < nL) (hs : st1 loc i (vI (x + Int32.ofInt n)) = some loc') (k : G l R own cc nL ret post (pc + 3) loc' st σ) : G l R own cc nL ret post pc loc st σ := by
  intro E p e s m args below meth c H locs ls C hσ hst hloc hlen hlv hP hS
  obtain ⟨j, hj⟩ := List.getElem?_of_mem ((asl_mem E i _ loc 0).mpr ⟨vI x, Nat.zero_le _, hl, rfl⟩)
  refine lv_iinc C.1 C.2.1 hd hlv hj rfl hi rfl (fun ls hl => ?_)
  refine k E p e s m args below meth c H locs ls C hσ hst ?_ ?_ (st1_sub hs hl) hP hS
  · rw [(st1_eq hs).1]; exact ok_set hloc (v := vI _) trivial
  · rw [(st1_eq hs).1, List.length_set]; exact hlen
end ROWS
