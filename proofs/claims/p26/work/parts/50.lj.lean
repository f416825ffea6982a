/-! THE LAW'S METHODS: a judgement over the rota as a value and the law's own arrays -/
abbrev LB : Type := Nat → Nat → Int32
def updB (B : LB) (j i : Nat) (v : Int32) : LB := fun k => if k = j then upd (B j) i v else B k
def newB (B : LB) (j : Nat) : LB := fun k => if k = j then (fun _ => 0) else B k
def arL (E : EV) (B : LB) (j : Nat) : Nat × va_E := (E.1 (9, j, 0), .inl (E.2.2 0, mLen j, .inl (B j)))
def wsL (E : EV) (A : List Nat) (B : LB) : va_W := A.map (arL E B)
-- what is known at the start, what may be written, what is to come
abbrev LK : Type := EV → State → Array Value → List Frame → Prop × ((Nat → Prop) × (State → Prop))
def DA (E : EV) (sz : Nat) (D : Nat → Prop) : Prop := (∀ q ∈ allLo, D (E.1 q)) ∧ ∀ a, sz ≤ a → D a
def setE (E : EV) (j a : Nat) : EV := (fun q => if q = (9, j, 0) then a else E.1 q, E.2)
def KI (K : LK) : Prop := ∀ E j a s args below, K (setE E j a) s args below = K E s args below
def GL (l : Launch) (R : Room) (cc : ByteArray) (nL : Nat) (ret : Option FieldType) (K : LK) (pc : Nat) (A : List Nat) (B : LB) (loc : List (Option AV)) (st : List AV) (X : XS) (cs sl : Nat) : Prop :=
  ∀ (E : EV) (σ : Sg) (p : Program) (e : Env) (s : State) (m : MethodId) (args : Array Value) (below : List Frame) (meth : Method) (c : Code) (H : Heap) (locs : List Jvm.Loc) (ls : Array Slot),
    CX RL cc nL ret E p s m args meth c → (K E s args below).1 → DA E s.heap.size (K E s args below).2.1 → POK σ → XOK σ → xabs σ = X → loc.length = nL → lv_has ls nL (asl E 0 loc) →
    va_P E.2.1 vwCl (wsOf E σ ++ wsL E A B) H → va_D (K E s args below).2.1 (wsOf E σ ++ wsL E A B) → va_S (K E s args below).2.1 s.heap H locs →
    W p l e R s m args below meth c H locs cs sl (K E s args below).2.2 (F0 m pc ls (st.map (cv E)))
section LROWS
variable {l : Launch} {R : Room} {cc : ByteArray} {nL : Nat} {ret : Option FieldType} {K : LK} {pc : Nat} {A : List Nat} {B : LB} {loc : List (Option AV)} {st : List AV} {X : XS} {cs sl : Nat}
theorem l_eq {pc' : Nat} {B' : LB} {loc' : List (Option AV)} {st' : List AV} {X' : XS} (h1 : pc = pc') (h2 : loc = loc') (h3 : st = st') (h4 : B = B') (h5 : X = X') (k : GL l R cc nL ret K pc' A B' loc' st' X' cs sl) : GL l R cc nL ret K pc A B loc st X cs sl := by
  subst h1; subst h2; subst h3; subst h4; subst h5; exact k
theorem l_sub {loc' : List (Option AV)} (h : lsub loc loc') (k : GL l R cc nL ret K pc A B loc' st X cs sl) : GL l R cc nL ret K pc A B loc st X cs sl := by
  intro E σ p e s m args below meth c H locs ls C hc hA hσ hX hx hlen hlv hP hD hS
  refine k E σ p e s m args below meth c H locs ls C hc hA hσ hX hx ((lsub_len h).symm.trans hlen) ⟨hlv.1, hlv.2.1, fun q hq => ?_⟩ hP hD hS
  obtain ⟨j, u⟩ := q
  obtain ⟨w, h1, h2, h3⟩ := (asl_mem E j u _ 0).mp hq
  exact hlv.2.2 (j, u) ((asl_mem E j u _ 0).mpr ⟨w, h1, lsub_gl h h2, h3⟩)
theorem l_wide {c2 s2 : Nat} (h1 : cs ≤ c2) (h2 : sl ≤ s2) (k : GL l R cc nL ret K pc A B loc st X c2 s2) : GL l R cc nL ret K pc A B loc st X cs sl := by
  intro E σ p e s m args below meth c H locs ls C hc hA hσ hX hx hlen hlv hP hD hS
  exact W.widen h1 h2 (k E σ p e s m args below meth c H locs ls C hc hA hσ hX hx hlen hlv hP hD hS)
theorem l_iload_n {i : Fin 4} {x : Int32} (hd : decode cc pc = .ok (.iload_n i, 1)) (hl : gl loc i = some (vI x)) (k : GL l R cc nL ret K (pc + 1) A B loc (vI x :: st) X cs sl) : GL l R cc nL ret K pc A B loc st X cs sl := by
  intro E σ p e s m args below meth c H locs ls C hc hA hσ hX hx hlen hlv hP hD hS
  exact lv_iload_n C.1 C.2.1 hd rfl (LV_get hlv hl) (k E σ p e s m args below meth c H locs ls C hc hA hσ hX hx hlen hlv hP hD hS)
theorem l_iload {i : Nat} {x : Int32} (hd : decode cc pc = .ok (.iload i, 2)) (hl : gl loc i = some (vI x)) (k : GL l R cc nL ret K (pc + 2) A B loc (vI x :: st) X cs sl) : GL l R cc nL ret K pc A B loc st X cs sl := by
  intro E σ p e s m args below meth c H locs ls C hc hA hσ hX hx hlen hlv hP hD hS
  exact lv_iload C.1 C.2.1 hd (LV_get hlv hl) (k E σ p e s m args below meth c H locs ls C hc hA hσ hX hx hlen hlv hP hD hS)
theorem l_aload_n {i : Fin 4} {q : Lo} (hd : decode cc pc = .ok (.aload_n i, 1)) (hl : gl loc i = some (vR q)) (k : GL l R cc nL ret K (pc + 1) A B loc (vR q :: st) X cs sl) : GL l R cc nL ret K pc A B loc st X cs sl := by
  intro E σ p e s m args below meth c H locs ls C hc hA hσ hX hx hlen hlv hP hD hS
  exact lv_aload_n C.1 C.2.1 hd rfl (LV_get hlv hl) (k E σ p e s m args below meth c H locs ls C hc hA hσ hX hx hlen hlv hP hD hS)
theorem l_aload {i : Nat} {q : Lo} (hd : decode cc pc = .ok (.aload i, 2)) (hl : gl loc i = some (vR q)) (k : GL l R cc nL ret K (pc + 2) A B loc (vR q :: st) X cs sl) : GL l R cc nL ret K pc A B loc st X cs sl := by
  intro E σ p e s m args below meth c H locs ls C hc hA hσ hX hx hlen hlv hP hD hS
  exact lv_aload C.1 C.2.1 hd (LV_get hlv hl) (k E σ p e s m args below meth c H locs ls C hc hA hσ hX hx hlen hlv hP hD hS)
theorem l_iconst {n : Int} (hd : decode cc pc = .ok (.iconst n, 1))  (k : GL l R cc nL ret K (pc + 1) A B loc (vI (Int32.ofInt n) :: st) X cs sl) : GL l R cc nL ret K pc A B loc st X cs sl := by
  intro E σ p e s m args below meth c H locs ls C hc hA hσ hX hx hlen hlv hP hD hS
  exact lv_iconst C.1 C.2.1 hd rfl (k E σ p e s m args below meth c H locs ls C hc hA hσ hX hx hlen hlv hP hD hS)
theorem l_bipush {n : Int} (hd : decode cc pc = .ok (.bipush n, 2))  (k : GL l R cc nL ret K (pc + 2) A B loc (vI (Int8.ofInt n).toInt32 :: st) X cs sl) : GL l R cc nL ret K pc A B loc st X cs sl := by
  intro E σ p e s m args below meth c H locs ls C hc hA hσ hX hx hlen hlv hP hD hS
  exact lv_bipush C.1 C.2.1 hd rfl (k E σ p e s m args below meth c H locs ls C hc hA hσ hX hx hlen hlv hP hD hS)
theorem l_sipush {n : Int} (hd : decode cc pc = .ok (.sipush n, 3))  (k : GL l R cc nL ret K (pc + 3) A B loc (vI (Int16.ofInt n).toInt32 :: st) X cs sl) : GL l R cc nL ret K pc A B loc st X cs sl := by
  intro E σ p e s m args below meth c H locs ls C hc hA hσ hX hx hlen hlv hP hD hS
  exact lv_sipush C.1 C.2.1 hd rfl (k E σ p e s m args below meth c H locs ls C hc hA hσ hX hx hlen hlv hP hD hS)
theorem l_iadd {x y : Int32} (hd : decode cc pc = .ok (.iadd, 1))  (k : GL l R cc nL ret K (pc + 1) A B loc (vI (x + y) :: st) X cs sl) : GL l R cc nL ret K pc A B loc (vI y :: vI x :: st) X cs sl := by
  intro E σ p e s m args below meth c H locs ls C hc hA hσ hX hx hlen hlv hP hD hS
  exact lv_iadd C.1 C.2.1 hd  (k E σ p e s m args below meth c H locs ls C hc hA hσ hX hx hlen hlv hP hD hS)
theorem l_isub {x y : Int32} (hd : decode cc pc = .ok (.isub, 1))  (k : GL l R cc nL ret K (pc + 1) A B loc (vI (x - y) :: st) X cs sl) : GL l R cc nL ret K pc A B loc (vI y :: vI x :: st) X cs sl := by
  intro E σ p e s m args below meth c H locs ls C hc hA hσ hX hx hlen hlv hP hD hS
  exact lv_isub C.1 C.2.1 hd  (k E σ p e s m args below meth c H locs ls C hc hA hσ hX hx hlen hlv hP hD hS)
theorem l_imul {x y : Int32} (hd : decode cc pc = .ok (.imul, 1))  (k : GL l R cc nL ret K (pc + 1) A B loc (vI (x * y) :: st) X cs sl) : GL l R cc nL ret K pc A B loc (vI y :: vI x :: st) X cs sl := by
  intro E σ p e s m args below meth c H locs ls C hc hA hσ hX hx hlen hlv hP hD hS
  exact lv_imul C.1 C.2.1 hd  (k E σ p e s m args below meth c H locs ls C hc hA hσ hX hx hlen hlv hP hD hS)
theorem l_iand {x y : Int32} (hd : decode cc pc = .ok (.iand, 1))  (k : GL l R cc nL ret K (pc + 1) A B loc (vI (x &&& y) :: st) X cs sl) : GL l R cc nL ret K pc A B loc (vI y :: vI x :: st) X cs sl := by
  intro E σ p e s m args below meth c H locs ls C hc hA hσ hX hx hlen hlv hP hD hS
  exact lv_iand C.1 C.2.1 hd  (k E σ p e s m args below meth c H locs ls C hc hA hσ hX hx hlen hlv hP hD hS)
theorem l_ior {x y : Int32} (hd : decode cc pc = .ok (.ior, 1))  (k : GL l R cc nL ret K (pc + 1) A B loc (vI (x ||| y) :: st) X cs sl) : GL l R cc nL ret K pc A B loc (vI y :: vI x :: st) X cs sl := by
  intro E σ p e s m args below meth c H locs ls C hc hA hσ hX hx hlen hlv hP hD hS
  exact lv_ior C.1 C.2.1 hd  (k E σ p e s m args below meth c H locs ls C hc hA hσ hX hx hlen hlv hP hD hS)
theorem l_ishl {x y : Int32} (hd : decode cc pc = .ok (.ishl, 1))  (k : GL l R cc nL ret K (pc + 1) A B loc (vI (x <<< (y &&& 31)) :: st) X cs sl) : GL l R cc nL ret K pc A B loc (vI y :: vI x :: st) X cs sl := by
  intro E σ p e s m args below meth c H locs ls C hc hA hσ hX hx hlen hlv hP hD hS
  exact lv_ishl C.1 C.2.1 hd  (k E σ p e s m args below meth c H locs ls C hc hA hσ hX hx hlen hlv hP hD hS)
theorem l_ishr {x y : Int32} (hd : decode cc pc = .ok (.ishr, 1))  (k : GL l R cc nL ret K (pc + 1) A B loc (vI (x >>> (y &&& 31)) :: st) X cs sl) : GL l R cc nL ret K pc A B loc (vI y :: vI x :: st) X cs sl := by
  intro E σ p e s m args below meth c H locs ls C hc hA hσ hX hx hlen hlv hP hD hS
  exact lv_ishr C.1 C.2.1 hd  (k E σ p e s m args below meth c H locs ls C hc hA hσ hX hx hlen hlv hP hD hS)
theorem l_ineg {x : Int32} (hd : decode cc pc = .ok (.ineg, 1))  (k : GL l R cc nL ret K (pc + 1) A B loc (vI (-x) :: st) X cs sl) : GL l R cc nL ret K pc A B loc (vI x :: st) X cs sl := by
  intro E σ p e s m args below meth c H locs ls C hc hA hσ hX hx hlen hlv hP hD hS
  exact lv_ineg C.1 C.2.1 hd  (k E σ p e s m args below meth c H locs ls C hc hA hσ hX hx hlen hlv hP hD hS)
theorem l_idiv {x y : Int32} (hd : decode cc pc = .ok (.idiv, 1)) (hy : ¬ y = 0) (k : GL l R cc nL ret K (pc + 1) A B loc (vI (x / y) :: st) X cs sl) : GL l R cc nL ret K pc A B loc (vI y :: vI x :: st) X cs sl := by
  intro E σ p e s m args below meth c H locs ls C hc hA hσ hX hx hlen hlv hP hD hS
  exact lv_idiv C.1 C.2.1 hd hy (k E σ p e s m args below meth c H locs ls C hc hA hσ hX hx hlen hlv hP hD hS)
theorem l_irem {x y : Int32} (hd : decode cc pc = .ok (.irem, 1)) (hy : ¬ y = 0) (k : GL l R cc nL ret K (pc + 1) A B loc (vI (remS x y) :: st) X cs sl) : GL l R cc nL ret K pc A B loc (vI y :: vI x :: st) X cs sl := by
  intro E σ p e s m args below meth c H locs ls C hc hA hσ hX hx hlen hlv hP hD hS
  exact lv_irem C.1 C.2.1 hd hy (k E σ p e s m args below meth c H locs ls C hc hA hσ hX hx hlen hlv hP hD hS)
theorem l_lor {x y : Int64} (hd : decode cc pc = .ok (.lor, 1))  (k : GL l R cc nL ret K (pc + 1) A B loc (vL (x ||| y) :: st) X cs sl) : GL l R cc nL ret K pc A B loc (vL y :: vL x :: st) X cs sl := by
  intro E σ p e s m args below meth c H locs ls C hc hA hσ hX hx hlen hlv hP hD hS
  exact lv_lor C.1 C.2.1 hd  (k E σ p e s m args below meth c H locs ls C hc hA hσ hX hx hlen hlv hP hD hS)
theorem l_lshl {x : Int64} {y : Int32} (hd : decode cc pc = .ok (.lshl, 1))  (k : GL l R cc nL ret K (pc + 1) A B loc (vL (x <<< (y.toInt64 &&& 63)) :: st) X cs sl) : GL l R cc nL ret K pc A B loc (vI y :: vL x :: st) X cs sl := by
  intro E σ p e s m args below meth c H locs ls C hc hA hσ hX hx hlen hlv hP hD hS
  exact lv_lshl C.1 C.2.1 hd rfl (k E σ p e s m args below meth c H locs ls C hc hA hσ hX hx hlen hlv hP hD hS)
theorem l_i2l {x : Int32} (hd : decode cc pc = .ok (.i2l, 1))  (k : GL l R cc nL ret K (pc + 1) A B loc (vL x.toInt64 :: st) X cs sl) : GL l R cc nL ret K pc A B loc (vI x :: st) X cs sl := by
  intro E σ p e s m args below meth c H locs ls C hc hA hσ hX hx hlen hlv hP hD hS
  exact lv_i2l C.1 C.2.1 hd rfl (k E σ p e s m args below meth c H locs ls C hc hA hσ hX hx hlen hlv hP hD hS)
theorem l_popI {x : Int32} (hd : decode cc pc = .ok (.pop, 1))  (k : GL l R cc nL ret K (pc + 1) A B loc st X cs sl) : GL l R cc nL ret K pc A B loc (vI x :: st) X cs sl := by
  intro E σ p e s m args below meth c H locs ls C hc hA hσ hX hx hlen hlv hP hD hS
  exact lv_pop C.1 C.2.1 hd rfl (k E σ p e s m args below meth c H locs ls C hc hA hσ hX hx hlen hlv hP hD hS)
theorem l_dupI {x : Int32} (hd : decode cc pc = .ok (.dup, 1))  (k : GL l R cc nL ret K (pc + 1) A B loc (vI x :: vI x :: st) X cs sl) : GL l R cc nL ret K pc A B loc (vI x :: st) X cs sl := by
  intro E σ p e s m args below meth c H locs ls C hc hA hσ hX hx hlen hlv hP hD hS
  exact lv_dup C.1 C.2.1 hd rfl (k E σ p e s m args below meth c H locs ls C hc hA hσ hX hx hlen hlv hP hD hS)
theorem l_dup2 {x : Int32} {q : Lo} (hd : decode cc pc = .ok (.dup2, 1))  (k : GL l R cc nL ret K (pc + 1) A B loc (vI x :: vR q :: vI x :: vR q :: st) X cs sl) : GL l R cc nL ret K pc A B loc (vI x :: vR q :: st) X cs sl := by
  intro E σ p e s m args below meth c H locs ls C hc hA hσ hX hx hlen hlv hP hD hS
  exact lv_dup2_11 C.1 C.2.1 hd rfl rfl (k E σ p e s m args below meth c H locs ls C hc hA hσ hX hx hlen hlv hP hD hS)
theorem l_istore_n {i : Fin 4} {x : Int32} {loc' : List (Option AV)} (hd : decode cc pc = .ok (.istore_n i, 1)) (hi : (i : Nat) < nL) (hs : st1 loc i (vI x) = some loc') (k : GL l R cc nL ret K (pc + 1) A B loc' st X cs sl) : GL l R cc nL ret K pc A B loc (vI x :: st) X cs sl := by
  intro E σ p e s m args below meth c H locs ls C hc hA hσ hX hx hlen hlv hP hD hS
  refine lv_istore_n C.1 C.2.1 hd rfl hlv hi rfl (fun ls hl => ?_)
  exact k E σ p e s m args below meth c H locs ls C hc hA hσ hX hx (by rw [(st1_eq hs).1, List.length_set]; exact hlen) (st1_sub hs hl) hP hD hS
theorem l_istore {i : Nat} {x : Int32} {loc' : List (Option AV)} (hd : decode cc pc = .ok (.istore i, 2)) (hi : (i : Nat) < nL) (hs : st1 loc i (vI x) = some loc') (k : GL l R cc nL ret K (pc + 2) A B loc' st X cs sl) : GL l R cc nL ret K pc A B loc (vI x :: st) X cs sl := by
  intro E σ p e s m args below meth c H locs ls C hc hA hσ hX hx hlen hlv hP hD hS
  refine lv_istore C.1 C.2.1 hd hlv hi rfl (fun ls hl => ?_)
  exact k E σ p e s m args below meth c H locs ls C hc hA hσ hX hx (by rw [(st1_eq hs).1, List.length_set]; exact hlen) (st1_sub hs hl) hP hD hS
theorem l_astore_n {i : Fin 4} {q : Lo} {loc' : List (Option AV)} (hd : decode cc pc = .ok (.astore_n i, 1)) (hi : (i : Nat) < nL) (hs : st1 loc i (vR q) = some loc') (k : GL l R cc nL ret K (pc + 1) A B loc' st X cs sl) : GL l R cc nL ret K pc A B loc (vR q :: st) X cs sl := by
  intro E σ p e s m args below meth c H locs ls C hc hA hσ hX hx hlen hlv hP hD hS
  refine lv_astore_n C.1 C.2.1 hd rfl hlv hi rfl (fun ls hl => ?_)
  exact k E σ p e s m args below meth c H locs ls C hc hA hσ hX hx (by rw [(st1_eq hs).1, List.length_set]; exact hlen) (st1_sub hs hl) hP hD hS
theorem l_astore {i : Nat} {q : Lo} {loc' : List (Option AV)} (hd : decode cc pc = .ok (.astore i, 2)) (hi : (i : Nat) < nL) (hs : st1 loc i (vR q) = some loc') (k : GL l R cc nL ret K (pc + 2) A B loc' st X cs sl) : GL l R cc nL ret K pc A B loc (vR q :: st) X cs sl := by
  intro E σ p e s m args below meth c H locs ls C hc hA hσ hX hx hlen hlv hP hD hS
  refine lv_astore C.1 C.2.1 hd hlv hi rfl (fun ls hl => ?_)
  exact k E σ p e s m args below meth c H locs ls C hc hA hσ hX hx (by rw [(st1_eq hs).1, List.length_set]; exact hlen) (st1_sub hs hl) hP hD hS
theorem l_iinc {i : Nat} {n : Int} {x : Int32} {loc' : List (Option AV)} (hd : decode cc pc = .ok (.iinc i n, 3)) (hl : gl loc i = some (vI x)) (hi : i < nL) (hs : st1 loc i (vI (x + Int32.ofInt n)) = some loc') (k : GL l R cc nL ret K (pc + 3) A B loc' st X cs sl) : GL l R cc nL ret K pc A B loc st X cs sl := by
  intro E σ p e s m args below meth c H locs ls C hc hA hσ hX hx hlen hlv hP hD hS
  obtain ⟨j, hj⟩ := List.getElem?_of_mem ((asl_mem E i _ loc 0).mpr ⟨vI x, Nat.zero_le _, hl, rfl⟩)
  refine lv_iinc C.1 C.2.1 hd hlv hj rfl hi rfl (fun ls hl => ?_)
  exact k E σ p e s m args below meth c H locs ls C hc hA hσ hX hx (by rw [(st1_eq hs).1, List.length_set]; exact hlen) (st1_sub hs hl) hP hD hS
theorem l_if_eq {x : Int32} {off : Int} {tgt : Nat} (hd : decode cc pc = .ok (.ifCond .eq off, 3)) (ht : (pc : Int) + off = (tgt : Int)) (kt : x = 0 → GL l R cc nL ret K tgt A B loc st X cs sl) (kf : ¬ x = 0 → GL l R cc nL ret K (pc + 3) A B loc st X cs sl) : GL l R cc nL ret K pc A B loc (vI x :: st) X cs sl := by
  intro E σ p e s m args below meth c H locs ls C hc hA hσ hX hx hlen hlv hP hD hS
  exact lv_if_eq C.1 C.2.1 hd ht (fun q => kt q E σ p e s m args below meth c H locs ls C hc hA hσ hX hx hlen hlv hP hD hS) (fun q => kf q E σ p e s m args below meth c H locs ls C hc hA hσ hX hx hlen hlv hP hD hS)
theorem l_icmp_eq {x y : Int32} {off : Int} {tgt : Nat} (hd : decode cc pc = .ok (.if_icmp .eq off, 3)) (ht : (pc : Int) + off = (tgt : Int)) (kt : x = y → GL l R cc nL ret K tgt A B loc st X cs sl) (kf : ¬ x = y → GL l R cc nL ret K (pc + 3) A B loc st X cs sl) : GL l R cc nL ret K pc A B loc (vI y :: vI x :: st) X cs sl := by
  intro E σ p e s m args below meth c H locs ls C hc hA hσ hX hx hlen hlv hP hD hS
  exact lv_icmp_eq C.1 C.2.1 hd ht (fun q => kt q E σ p e s m args below meth c H locs ls C hc hA hσ hX hx hlen hlv hP hD hS) (fun q => kf q E σ p e s m args below meth c H locs ls C hc hA hσ hX hx hlen hlv hP hD hS)
theorem l_if_ne {x : Int32} {off : Int} {tgt : Nat} (hd : decode cc pc = .ok (.ifCond .ne off, 3)) (ht : (pc : Int) + off = (tgt : Int)) (kt : ¬ x = 0 → GL l R cc nL ret K tgt A B loc st X cs sl) (kf : x = 0 → GL l R cc nL ret K (pc + 3) A B loc st X cs sl) : GL l R cc nL ret K pc A B loc (vI x :: st) X cs sl := by
  intro E σ p e s m args below meth c H locs ls C hc hA hσ hX hx hlen hlv hP hD hS
  exact lv_if_ne C.1 C.2.1 hd ht (fun q => kt q E σ p e s m args below meth c H locs ls C hc hA hσ hX hx hlen hlv hP hD hS) (fun q => kf q E σ p e s m args below meth c H locs ls C hc hA hσ hX hx hlen hlv hP hD hS)
theorem l_icmp_ne {x y : Int32} {off : Int} {tgt : Nat} (hd : decode cc pc = .ok (.if_icmp .ne off, 3)) (ht : (pc : Int) + off = (tgt : Int)) (kt : ¬ x = y → GL l R cc nL ret K tgt A B loc st X cs sl) (kf : x = y → GL l R cc nL ret K (pc + 3) A B loc st X cs sl) : GL l R cc nL ret K pc A B loc (vI y :: vI x :: st) X cs sl := by
  intro E σ p e s m args below meth c H locs ls C hc hA hσ hX hx hlen hlv hP hD hS
  exact lv_icmp_ne C.1 C.2.1 hd ht (fun q => kt q E σ p e s m args below meth c H locs ls C hc hA hσ hX hx hlen hlv hP hD hS) (fun q => kf q E σ p e s m args below meth c H locs ls C hc hA hσ hX hx hlen hlv hP hD hS)
theorem l_if_lt {x : Int32} {off : Int} {tgt : Nat} (hd : decode cc pc = .ok (.ifCond .lt off, 3)) (ht : (pc : Int) + off = (tgt : Int)) (kt : x < 0 → GL l R cc nL ret K tgt A B loc st X cs sl) (kf : ¬ x < 0 → GL l R cc nL ret K (pc + 3) A B loc st X cs sl) : GL l R cc nL ret K pc A B loc (vI x :: st) X cs sl := by
  intro E σ p e s m args below meth c H locs ls C hc hA hσ hX hx hlen hlv hP hD hS
  exact lv_if_lt C.1 C.2.1 hd ht (fun q => kt q E σ p e s m args below meth c H locs ls C hc hA hσ hX hx hlen hlv hP hD hS) (fun q => kf q E σ p e s m args below meth c H locs ls C hc hA hσ hX hx hlen hlv hP hD hS)
theorem l_icmp_lt {x y : Int32} {off : Int} {tgt : Nat} (hd : decode cc pc = .ok (.if_icmp .lt off, 3)) (ht : (pc : Int) + off = (tgt : Int)) (kt : x < y → GL l R cc nL ret K tgt A B loc st X cs sl) (kf : ¬ x < y → GL l R cc nL ret K (pc + 3) A B loc st X cs sl) : GL l R cc nL ret K pc A B loc (vI y :: vI x :: st) X cs sl := by
  intro E σ p e s m args below meth c H locs ls C hc hA hσ hX hx hlen hlv hP hD hS
  exact lv_icmp_lt C.1 C.2.1 hd ht (fun q => kt q E σ p e s m args below meth c H locs ls C hc hA hσ hX hx hlen hlv hP hD hS) (fun q => kf q E σ p e s m args below meth c H locs ls C hc hA hσ hX hx hlen hlv hP hD hS)
theorem l_if_ge {x : Int32} {off : Int} {tgt : Nat} (hd : decode cc pc = .ok (.ifCond .ge off, 3)) (ht : (pc : Int) + off = (tgt : Int)) (kt : 0 ≤ x → GL l R cc nL ret K tgt A B loc st X cs sl) (kf : ¬ 0 ≤ x → GL l R cc nL ret K (pc + 3) A B loc st X cs sl) : GL l R cc nL ret K pc A B loc (vI x :: st) X cs sl := by
  intro E σ p e s m args below meth c H locs ls C hc hA hσ hX hx hlen hlv hP hD hS
  exact lv_if_ge C.1 C.2.1 hd ht (fun q => kt q E σ p e s m args below meth c H locs ls C hc hA hσ hX hx hlen hlv hP hD hS) (fun q => kf q E σ p e s m args below meth c H locs ls C hc hA hσ hX hx hlen hlv hP hD hS)
theorem l_icmp_ge {x y : Int32} {off : Int} {tgt : Nat} (hd : decode cc pc = .ok (.if_icmp .ge off, 3)) (ht : (pc : Int) + off = (tgt : Int)) (kt : y ≤ x → GL l R cc nL ret K tgt A B loc st X cs sl) (kf : ¬ y ≤ x → GL l R cc nL ret K (pc + 3) A B loc st X cs sl) : GL l R cc nL ret K pc A B loc (vI y :: vI x :: st) X cs sl := by
  intro E σ p e s m args below meth c H locs ls C hc hA hσ hX hx hlen hlv hP hD hS
  exact lv_icmp_ge C.1 C.2.1 hd ht (fun q => kt q E σ p e s m args below meth c H locs ls C hc hA hσ hX hx hlen hlv hP hD hS) (fun q => kf q E σ p e s m args below meth c H locs ls C hc hA hσ hX hx hlen hlv hP hD hS)
theorem l_if_gt {x : Int32} {off : Int} {tgt : Nat} (hd : decode cc pc = .ok (.ifCond .gt off, 3)) (ht : (pc : Int) + off = (tgt : Int)) (kt : 0 < x → GL l R cc nL ret K tgt A B loc st X cs sl) (kf : ¬ 0 < x → GL l R cc nL ret K (pc + 3) A B loc st X cs sl) : GL l R cc nL ret K pc A B loc (vI x :: st) X cs sl := by
  intro E σ p e s m args below meth c H locs ls C hc hA hσ hX hx hlen hlv hP hD hS
  exact lv_if_gt C.1 C.2.1 hd ht (fun q => kt q E σ p e s m args below meth c H locs ls C hc hA hσ hX hx hlen hlv hP hD hS) (fun q => kf q E σ p e s m args below meth c H locs ls C hc hA hσ hX hx hlen hlv hP hD hS)
theorem l_icmp_gt {x y : Int32} {off : Int} {tgt : Nat} (hd : decode cc pc = .ok (.if_icmp .gt off, 3)) (ht : (pc : Int) + off = (tgt : Int)) (kt : y < x → GL l R cc nL ret K tgt A B loc st X cs sl) (kf : ¬ y < x → GL l R cc nL ret K (pc + 3) A B loc st X cs sl) : GL l R cc nL ret K pc A B loc (vI y :: vI x :: st) X cs sl := by
  intro E σ p e s m args below meth c H locs ls C hc hA hσ hX hx hlen hlv hP hD hS
  exact lv_icmp_gt C.1 C.2.1 hd ht (fun q => kt q E σ p e s m args below meth c H locs ls C hc hA hσ hX hx hlen hlv hP hD hS) (fun q => kf q E σ p e s m args below meth c H locs ls C hc hA hσ hX hx hlen hlv hP hD hS)
theorem l_if_le {x : Int32} {off : Int} {tgt : Nat} (hd : decode cc pc = .ok (.ifCond .le off, 3)) (ht : (pc : Int) + off = (tgt : Int)) (kt : x ≤ 0 → GL l R cc nL ret K tgt A B loc st X cs sl) (kf : ¬ x ≤ 0 → GL l R cc nL ret K (pc + 3) A B loc st X cs sl) : GL l R cc nL ret K pc A B loc (vI x :: st) X cs sl := by
  intro E σ p e s m args below meth c H locs ls C hc hA hσ hX hx hlen hlv hP hD hS
  exact lv_if_le C.1 C.2.1 hd ht (fun q => kt q E σ p e s m args below meth c H locs ls C hc hA hσ hX hx hlen hlv hP hD hS) (fun q => kf q E σ p e s m args below meth c H locs ls C hc hA hσ hX hx hlen hlv hP hD hS)
theorem l_icmp_le {x y : Int32} {off : Int} {tgt : Nat} (hd : decode cc pc = .ok (.if_icmp .le off, 3)) (ht : (pc : Int) + off = (tgt : Int)) (kt : x ≤ y → GL l R cc nL ret K tgt A B loc st X cs sl) (kf : ¬ x ≤ y → GL l R cc nL ret K (pc + 3) A B loc st X cs sl) : GL l R cc nL ret K pc A B loc (vI y :: vI x :: st) X cs sl := by
  intro E σ p e s m args below meth c H locs ls C hc hA hσ hX hx hlen hlv hP hD hS
  exact lv_icmp_le C.1 C.2.1 hd ht (fun q => kt q E σ p e s m args below meth c H locs ls C hc hA hσ hX hx hlen hlv hP hD hS) (fun q => kf q E σ p e s m args below meth c H locs ls C hc hA hσ hX hx hlen hlv hP hD hS)
theorem l_goto {off : Int} {tgt : Nat} (hd : decode cc pc = .ok (.goto off, 3)) (ht : (pc : Int) + off = (tgt : Int)) (k : GL l R cc nL ret K tgt A B loc st X cs sl) : GL l R cc nL ret K pc A B loc st X cs sl := by
  intro E σ p e s m args below meth c H locs ls C hc hA hσ hX hx hlen hlv hP hD hS
  exact lv_goto C.1 C.2.1 hd ht (k E σ p e s m args below meth c H locs ls C hc hA hσ hX hx hlen hlv hP hD hS)
theorem l_tabI {dflt lo hi : Int} {offs : Array Int} {len : Nat} {x : Int32} {off : Int} {tgt : Nat} (hd : decode cc pc = .ok (.tableswitch dflt lo hi offs, len)) (h1 : ¬ x.toInt < lo) (h2 : ¬ hi < x.toInt) (ho : offs[(x.toInt - lo).toNat]? = some off) (ht : (pc : Int) + off = (tgt : Int)) (k : GL l R cc nL ret K tgt A B loc st X cs sl) : GL l R cc nL ret K pc A B loc (vI x :: st) X cs sl := by
  intro E σ p e s m args below meth c H locs ls C hc hA hσ hX hx hlen hlv hP hD hS
  exact lv_tableIn C.1 C.2.1 hd h1 h2 ho ht (k E σ p e s m args below meth c H locs ls C hc hA hσ hX hx hlen hlv hP hD hS)
theorem l_tabO {dflt lo hi : Int} {offs : Array Int} {len : Nat} {x : Int32} {tgt : Nat} (hd : decode cc pc = .ok (.tableswitch dflt lo hi offs, len)) (h : x.toInt < lo ∨ hi < x.toInt) (ht : (pc : Int) + dflt = (tgt : Int)) (k : GL l R cc nL ret K tgt A B loc st X cs sl) : GL l R cc nL ret K pc A B loc (vI x :: st) X cs sl := by
  intro E σ p e s m args below meth c H locs ls C hc hA hσ hX hx hlen hlv hP hD hS
  exact lv_tableOut C.1 C.2.1 hd h ht (k E σ p e s m args below meth c H locs ls C hc hA hσ hX hx hlen hlv hP hD hS)
theorem l_ldc {index : Nat} {v : Int32} (hw : Cond.constant RL index v ∈ TG) (hd : decode cc pc = .ok (.ldc index, 2)) (k : GL l R cc nL ret K (pc + 2) A B loc (vI v :: st) X cs sl) : GL l R cc nL ret K pc A B loc st X cs sl := by
  intro E σ p e s m args below meth c H locs ls C hc hA hσ hX hx hlen hlv hP hD hS
  exact lv_ldc C.1 C.2.1 C.2.2.2.1 (C.2.2.2.2.1 _ hw) hd (k E σ p e s m args below meth c H locs ls C hc hA hσ hX hx hlen hlv hP hD hS)
theorem l_ldc2 {index : Nat} {v : Int64} (hw : Cond.constantLong RL index v ∈ TG) (hd : decode cc pc = .ok (.ldc2_w index, 3)) (k : GL l R cc nL ret K (pc + 3) A B loc (vL v :: st) X cs sl) : GL l R cc nL ret K pc A B loc st X cs sl := by
  intro E σ p e s m args below meth c H locs ls C hc hA hσ hX hx hlen hlv hP hD hS
  exact lv_ldc2 C.1 C.2.1 C.2.2.2.1 (C.2.2.2.2.1 _ hw) hd (k E σ p e s m args below meth c H locs ls C hc hA hσ hX hx hlen hlv hP hD hS)
-- arrays
theorem wsL_get {E : EV} {σ : Sg} {A : List Nat} {B : LB} {i j : Nat} (h : A[i]? = some j) : (wsOf E σ ++ wsL E A B)[(wsOf E σ).length + i]? = some (arL E B j) := by
  rw [List.getElem?_append_right (Nat.le_add_right _ _), Nat.add_sub_cancel_left, wsL, List.getElem?_map, h]
  rfl
theorem wsL_at {E : EV} {σ : Sg} {A : List Nat} {B : LB} {k : Nat} {x : Nat × va_E} (h : (wsL E A B)[k]? = some x) : ∃ j, A[k]? = some j ∧ x = arL E B j := by
  rw [wsL, List.getElem?_map] at h
  cases hj : A[k]? with
  | none => rw [hj] at h; cases h
  | some j => rw [hj] at h; exact ⟨j, rfl, (Option.some.inj h).symm⟩
theorem vd_same {D : Nat → Prop} {w w' : va_W} (h : va_D D w) (e : w'.map Prod.fst = w.map Prod.fst) : va_D D w' := by
  have tr : ∀ (k : Nat) (q : Nat × va_E), w'[k]? = some q → ∃ q', w[k]? = some q' ∧ q'.1 = q.1 := by
    intro k q hq
    have h1 : (w'.map Prod.fst)[k]? = some q.1 := by rw [List.getElem?_map, hq]; rfl
    rw [e, List.getElem?_map] at h1
    cases hw : w[k]? with
    | none => rw [hw] at h1; cases h1
    | some q' => rw [hw] at h1; exact ⟨q', rfl, Option.some.inj h1⟩
  refine ⟨fun i j p q hi hj hpq => ?_, fun k q hk => ?_⟩
  · obtain ⟨p', h1, h2⟩ := tr i p hi
    obtain ⟨q', h3, h4⟩ := tr j q hj
    exact h.1 i j p' q' h1 h3 (by rw [h2, h4, hpq])
  · obtain ⟨q', h1, h2⟩ := tr k q hk
    rw [← h2]
    exact h.2 k q' h1
theorem fst_ws {E : EV} {σ τ : Sg} {A : List Nat} {B B' : LB} : (wsOf E σ ++ wsL E A B).map Prod.fst = (wsOf E τ ++ wsL E A B').map Prod.fst := by
  rw [List.map_append, List.map_append, wsOf, wsOf, wsL, wsL, List.map_map, List.map_map, List.map_map, List.map_map]
  rfl
theorem set_arr {E : EV} {σ : Sg} {A : List Nat} {B : LB} {i j k : Nat} {v : Int32} (hj : A[i]? = some j) (hn : ∀ i', A[i']? = some j → i' = i) : (wsOf E σ ++ wsL E A B).set ((wsOf E σ).length + i) (E.1 (9, j, 0), .inl (E.2.2 0, mLen j, .inl (upd (B j) k v))) = wsOf E σ ++ wsL E A (updB B j k v) := by
  rw [List.set_append_right _ _ (Nat.le_add_right _ _), Nat.add_sub_cancel_left]
  congr 1
  apply List.ext_getElem?
  intro n
  by_cases q : n = i
  · subst q
    have hl : n < (wsL E A B).length := by rw [wsL, List.length_map]; exact (List.getElem?_eq_some_iff.mp hj).1
    rw [List.getElem?_set_self hl, wsL, List.getElem?_map, hj]
    show some _ = some (arL E (updB B j k v) j)
    rw [arL, updB, if_pos rfl]
  · rw [List.getElem?_set_ne (Ne.symm q), wsL, wsL, List.getElem?_map, List.getElem?_map]
    cases hm : A[n]? with
    | none => rfl
    | some m =>
      show some (arL E B m) = some (arL E (updB B j k v) m)
      have hne : ¬ m = j := fun z => q (hn n (by rw [hm, z]))
      rw [arL, arL, updB, if_neg hne]
theorem ar_one {E : EV} {σ : Sg} {A : List Nat} {B : LB} {D : Nat → Prop} (hD : va_D D (wsOf E σ ++ wsL E A B)) {i i' j : Nat} (h : A[i]? = some j) (h' : A[i']? = some j) : i' = i := by
  have := hD.1 _ _ _ _ (wsL_get (E := E) (σ := σ) (B := B) h') (wsL_get (E := E) (σ := σ) (B := B) h) rfl
  omega
theorem l_iald {i : Int32} (j : Nat) (hj : j ∈ A) (hin : vp_in i (mLen j)) (hd : decode cc pc = .ok (.iaload, 1)) (k : GL l R cc nL ret K (pc + 1) A B loc (vI (B j i.toNatClampNeg) :: st) X cs sl) : GL l R cc nL ret K pc A B loc (vI i :: vR (9, j, 0) :: st) X cs sl := by
  intro E σ p e s m args below meth c H locs ls C hc hA hσ hX hx hlen hlv hP hD hS
  obtain ⟨i0, hi0⟩ := List.getElem?_of_mem hj
  exact va_iald C.1 C.2.1 C.2.2.2.2.2.2.2.1.1 hP _ 0 (wsL_get hi0) rfl hin hd (k E σ p e s m args below meth c H locs ls C hc hA hσ hX hx hlen hlv hP hD hS)
theorem l_iast {i v : Int32} (j : Nat) (hj : j ∈ A) (hin : vp_in i (mLen j)) (hd : decode cc pc = .ok (.iastore, 1)) (k : GL l R cc nL ret K (pc + 1) A (updB B j i.toNatClampNeg v) loc st X cs sl) : GL l R cc nL ret K pc A B loc (vI v :: vI i :: vR (9, j, 0) :: st) X cs sl := by
  intro E σ p e s m args below meth c H locs ls C hc hA hσ hX hx hlen hlv hP hD hS
  obtain ⟨i0, hi0⟩ := List.getElem?_of_mem hj
  refine va_iast C.1 C.2.1 C.2.2.2.2.2.2.2.1.1 hP hD hS _ 0 (wsL_get hi0) rfl hin hd (fun H1 locs1 hP1 hD1 hS1 => ?_)
  rw [set_arr hi0 (fun i' h' => ar_one hD hi0 h')] at hP1 hD1
  exact k E σ p e s m args below meth c H1 locs1 ls C hc hA hσ hX hx hlen hlv hP1 hD1 hS1
-- a new array
def nrV (j : Nat) : AV → Bool
  | .inr (.inr (some q)) => !(Nat.beq q.1 9 && Nat.beq q.2.1 j)
  | _ => true
def nrO (j : Nat) : Option AV → Bool
  | some v => nrV j v
  | none => true
theorem setE_ne {E : EV} {j a : Nat} {q : Lo} (h : q ≠ (9, j, 0)) : (setE E j a).1 q = E.1 q := if_neg h
theorem setE_at {E : EV} {j a : Nat} : (setE E j a).1 (9, j, 0) = a := if_pos rfl
theorem all_ne9 : ∀ q ∈ allLo, q.1 ≠ 9 := by decide +kernel
theorem setE_all {E : EV} {j a : Nat} {q : Lo} (h : q ∈ allLo) : (setE E j a).1 q = E.1 q := setE_ne (fun z => all_ne9 q h (by rw [z]))
theorem cv_setE {E : EV} {j a : Nat} {v : AV} (h : nrV j v = true) : cv (setE E j a) v = cv E v := by
  rcases v with x | x | _ | q
  · rfl
  · rfl
  · rfl
  · show Value.ref ((setE E j a).1 q) = Value.ref (E.1 q)
    rw [setE_ne]
    intro z
    subst z
    have h2 : (!(Nat.beq 9 9 && Nat.beq j j)) = true := h
    rw [show Nat.beq j j = true from Nat.beq_refl j] at h2
    exact absurd h2 (by decide)
theorem asl_setE {E : EV} {j a : Nat} : ∀ {loc : List (Option AV)} (k : Nat), loc.all (nrO j) = true → asl (setE E j a) k loc = asl E k loc
  | [], _, _ => rfl
  | none :: r, k, h => by
    rw [List.all_cons, Bool.and_eq_true] at h
    rw [asl, asl, asl_setE (k + 1) h.2]
  | some v :: r, k, h => by
    rw [List.all_cons, Bool.and_eq_true] at h
    rw [asl, asl, asl_setE (k + 1) h.2, cv_setE h.1]
theorem fvs_setE {E : EV} {j a : Nat} {V : Nat → Int32} : ∀ (l : List FS) (k : Nat), l.all fsOk = true → fvs (setE E j a) V k l = fvs E V k l
  | [], _, _ => rfl
  | f :: r, k, h => by
    rw [List.all_cons, Bool.and_eq_true] at h
    rw [fvs, fvs, fvs_setE r (k + 1) h.2]
    congr 1
    rcases f with _ | c | q
    · rfl
    · rfl
    · show Value.ref ((setE E j a).1 q) = Value.ref (E.1 q)
      have h1 : decide (q ∈ allLo) = true := h.1
      rw [setE_all (of_decide_eq_true h1)]
theorem entry_setE {E : EV} {σ : Sg} {j a : Nat} (hσ : POK σ) {q : Lo} (hq : q ∈ allLo) : entry (setE E j a) σ q = entry E σ q := by
  have h1 := sh_closed q hq
  unfold shOk at h1
  unfold entry
  split <;> rename_i hs
  · rw [hs] at h1
    rw [fvs_setE _ _ h1]
  · rfl
  · rfl
  · have hf : (fun i => some ((setE E j a).1 (2, 0, σ.2 i))) = (fun i => some (E.1 (2, 0, σ.2 i))) := funext fun i => by rw [setE_all (lo_H (hσ i))]
    rw [hf]
    rfl
theorem ws_setE {E : EV} {σ : Sg} {j a : Nat} (hσ : POK σ) : wsOf (setE E j a) σ = wsOf E σ := by
  unfold wsOf
  apply List.map_congr_left
  intro q hq
  rw [setE_all hq, entry_setE hσ hq]
theorem wsL_setE {E : EV} {A : List Nat} {B : LB} {j a : Nat} (hj : ¬ j ∈ A) : wsL (setE E j a) A (newB B j) = wsL E A B := by
  unfold wsL
  apply List.map_congr_left
  intro i hi
  have hne : ¬ i = j := fun z => hj (z ▸ hi)
  unfold arL
  rw [setE_ne (fun z => hne (by have := congrArg (fun q : Lo => q.2.1) z; exact this)), newB, if_neg hne]
  rfl
theorem wsL_new {E : EV} {A : List Nat} {B : LB} {j a : Nat} (hj : ¬ j ∈ A) : wsL (setE E j a) (A ++ [j]) (newB B j) = wsL E A B ++ [(a, .inl (E.2.2 0, mLen j, .inl (fun _ => 0)))] := by
  have h := wsL_setE (E := E) (B := B) (a := a) hj
  unfold wsL at h ⊢
  rw [List.map_append, h]
  congr 1
  show [arL (setE E j a) (newB B j) j] = _
  unfold arL
  rw [setE_at, newB, if_pos rfl]
  rfl
theorem l_new {n : Int32} (j : Nat) (hK : KI K) (hj : (A.all fun i => !(Nat.beq i j)) = true) (hn : n = nI (mLen j)) (hm : mLen j ≤ 12) (hlo : loc.all (nrO j) = true) (hso : st.all (nrV j) = true) (hcs : cs + 1 ≤ R.cells ∧ sl + mLen j ≤ R.slots) (hd : decode cc pc = .ok (.newarray .int, 2))
    (k : GL l R cc nL ret K (pc + 2) (A ++ [j]) (newB B j) loc (vR (9, j, 0) :: st) X (cs + 1) (sl + mLen j)) : GL l R cc nL ret K pc A B loc (vI n :: st) X cs sl := by
  intro E σ p e s m args below meth c H locs ls C hc hA hσ hX hx hlen hlv hP hD hS
  obtain ⟨hx0, hb, hml, hown, hts, hr, hlk, hKE, hE⟩ := id C
  subst hn
  have hjA : ¬ j ∈ A := fun h => by
    have := List.all_eq_true.mp hj j h
    rw [Nat.beq_refl] at this
    cases this
  refine va_newaK hx0 hb (atype := .int) (hts _ t_ai) (g := F0 m pc ls (.int (nI (mLen j)) :: st.map (cv E))) rfl hd rfl (nI_pos (by omega)) (nI_clamp (by omega)) (show mLen j * 4 ≤ 536870912 by omega) hcs.1 hcs.2 rfl (fun H1 cA e1 z1 o1 hAr hNm => ?_)
  have h2 : s.vm.findClass ("[" ++ (FieldType.int).toString) = some (E.2.2 0) := (hKE.1.2 0 _ rfl).2
  have hcc : cA = E.2.2 0 := Option.some.inj (hNm.symm.trans h2)
  rw [hcc] at e1
  have hk : ∀ (k : Nat) (x : Nat × va_E), (wsOf E σ ++ wsL E A B)[k]? = some x → H1[x.1]? = H[x.1]? := fun k x hx => o1 x.1 ((hP k x hx).lt)
  have hKe := hK E j H.size s args below
  have fin := k (setE E j H.size) σ p e s m args below meth c H1 locs ls ⟨hx0, hb, hml, hown, hts, hr, hlk, hKE, fun q hq r hr h => hE q hq r hr (by rw [setE_all hq, setE_all hr] at h; exact h)⟩ (by rw [hKe]; exact hc) (by rw [hKe]; exact ⟨fun q hq => by rw [setE_all hq]; exact hA.1 q hq, hA.2⟩) hσ hX hx hlen (by rw [asl_setE 0 hlo]; exact hlv)
  rw [hKe, ws_setE hσ, wsL_new hjA, ← List.append_assoc] at fin
  have hst : (vR (9, j, 0) :: st).map (cv (setE E j H.size)) = .ref H.size :: st.map (cv E) := by
    rw [List.map_cons]
    congr 1
    · show Value.ref ((setE E j H.size).1 (9, j, 0)) = _
      rw [setE_at]
    · apply List.map_congr_left
      intro v hv
      exact cv_setE (List.all_eq_true.mp hso v hv)
  rw [hst] at fin
  refine fin ((hP.kept hk).app (fun k x hx => ?_)) (hD.push hP rfl (hA.2 _ hS.1)) ⟨Nat.le_trans hS.1 (by omega), fun x h1 h2 => (o1 x (Nat.lt_of_lt_of_le h1 hS.1)).trans (hS.2.1 x h1 h2), hS.2.2⟩
  have hz : k < 1 := (List.getElem?_eq_some_iff.mp hx).1
  rw [show k = 0 by omega] at hx
  cases hx
  show H1[H.size]? = some (vp_cell _ _)
  rw [vp_cell_i]
  exact e1
-- what a callee leaves as it was
theorem l_keep {E : EV} {σ u : Sg} {D : Nat → Prop} {H H1 : Heap} (hP : va_P E.2.1 vwCl (wsOf E σ ++ wsL E A B) H) (hD : va_D D (wsOf E σ ++ wsL E A B)) (hk : ∀ q : Nat, q < H.size → ¬ AE E H.size q → H1[q]? = H[q]?) (hP1 : va_P E.2.1 vwCl (wsOf E u) H1) :
    va_P E.2.1 vwCl (wsOf E u ++ wsL E A B) H1 ∧ va_D D (wsOf E u ++ wsL E A B) := by
  refine ⟨hP1.app (fun k x hx => ?_), vd_same hD fst_ws⟩
  obtain ⟨j, hj, rfl⟩ := wsL_at (σ := σ) hx
  have hg := wsL_get (E := E) (σ := σ) (B := B) hj
  have hl := (hP _ _ hg).lt
  refine (hP _ _ hg).kept (hk _ hl (fun h => ?_))
  rcases h with ⟨q, hq, e⟩ | h
  · obtain ⟨i0, hi0⟩ := List.getElem?_of_mem hq
    have hq2 := ws_get (E := E) (σ := σ) hi0
    have hlt : i0 < (wsOf E σ).length := (List.getElem?_eq_some_iff.mp hq2).1
    have := hD.1 _ _ _ _ hg ((List.getElem?_append_left hlt).trans hq2) e
    omega
  · exact absurd hl (by show ¬ _ < H.size; omega)
theorem P_left {E : EV} {σ : Sg} {H : Heap} (hP : va_P E.2.1 vwCl (wsOf E σ ++ wsL E A B) H) : va_P E.2.1 vwCl (wsOf E σ) H := fun k q hk => hP k q ((List.getElem?_append_left (List.getElem?_eq_some_iff.mp hk).1).trans hk)
theorem AE_D {E : EV} {D : Nat → Prop} {s : State} {H : Heap} {locs : List Jvm.Loc} (hA : DA E s.heap.size D) (hS : va_S D s.heap H locs) : ∀ q, AE E H.size q → D q := fun q h => by
  rcases h with ⟨r, hr, e⟩ | h
  · rw [e]; exact hA.1 r hr
  · exact hA.2 q (Nat.le_trans hS.1 h)
def isIL : AV → Bool
  | .inl _ => true
  | .inr (.inl _) => true
  | _ => false
theorem isIL_ok {v : AV} (h : isIL v = true) : okV v := by
  rcases v with x | x | _ | q
  · trivial
  · trivial
  · trivial
  · cases h
/-- a call of the class's public method -/
theorem l_callV {k idx maxL n : Nat} {y : MethodName} {bytes : ByteArray} (v : Int32) (X' : XS) (As : List AV) (rest : List AV)
    (hl : VLink RL idx y) (hm : MI y bytes maxL (some .int) n) (hC : ∀ σ, XOK σ → xabs σ = X → Con l k y bytes maxL (some .int) (vR (7, 0, 0) :: As) σ (fun o σ' => o = some (vI v) ∧ XW X' σ σ')) (hcl : RX4 = y.cls) (hi : As.all isIL = true) (hn : As.length = n) (hR : k + 1 ≤ R.frames ∧ 8 + (maxL + 11) + 32 * k ≤ R.locals)
    (hs : st = As.reverse ++ vR (7, 0, 0) :: rest) (hcat : (rest.map aCat).sum ≤ 8) (hcs : cs ≤ R.cells ∧ sl ≤ R.slots) (hd : decode cc pc = .ok (.invokevirtual idx, 3))
    (kk : GL l R cc nL ret K (pc + 3) A B loc (vI v :: rest) X' cs sl) : GL l R cc nL ret K pc A B loc st X cs sl := by
  intro E σ p e s m args below meth c H locs ls C hc hA hσ hX hx hlen hlv hP hD hS
  obtain ⟨hx0, hb, hml, hown, hts, hr, hlk, hK, hE⟩ := id C
  subst hs
  have hbo : ((7, 0, 0) : Lo) ∈ allLo := by decide +kernel
  have has : ∀ v ∈ vR (7, 0, 0) :: As, okV v := fun v hv => by
    rcases List.mem_cons.mp hv with q | q
    · rw [q]; exact hbo
    · exact isIL_ok (List.all_eq_true.mp hi v q)
  obtain ⟨i0, hi0⟩ := List.getElem?_of_mem hbo
  have hPw := P_left hP
  have hg : (wsOf E σ)[i0]? = some (E.1 (7, 0, 0), .inr (4, fvs E (σ.1 (7, 0, 0)) 0 [fr (2, 0, 0), fr (2, 0, 1), fr (3, 0, 0), fr (5, 0, 0)])) := by rw [ws_get hi0, entry_obj (x := (4, [fr (2, 0, 0), fr (2, 0, 1), fr (3, 0, 0), fr (5, 0, 0)])) rfl]
  have hrec := va_recv hK.1 hPw (q := (RX4, TX4, 4)) rfl hg
  rw [show ((RX4, TX4, 4) : vw_C).1 = y.cls from hcl] at hrec
  have hM := hC σ hX hx E hE hσ has H.size
  have hcw : CallW R s args RL y.cls idx y bytes maxL (some .int) (.code y bytes maxL (some .int) :: TG) (Rm k) 0 0 n :=
    cwV n hts (good_TG (fun w hw => by
      rcases List.mem_append.mp hw with h | h
      · simp only [List.mem_cons, List.not_mem_nil, or_false] at h
        rcases h with h | h | h | h
        · rw [h]; exact hl.1
        · rw [h]; exact hl.2.1
        · rw [h]; exact hl.2.2.1
        · rw [h]; exact hl.2.2.2
      · rcases List.mem_cons.mp h with h | h
        · rw [h]; exact hm.1
        · exact h)) rfl rfl rfl ⟨rfl, hm.2⟩ hR
  have hsk : (F0 m pc ls ((As.reverse ++ vR (7, 0, 0) :: rest).map (cv E))).stack = (As.map (cv E)).reverse ++ .ref (E.1 (7, 0, 0)) :: rest.map (cv E) := by
    show (As.reverse ++ vR (7, 0, 0) :: rest).map (cv E) = _
    rw [List.map_append, List.map_cons, List.map_reverse]
    rfl
  refine va_calli (a := (Value.ref (E.1 (7, 0, 0)) :: As.map (cv E)).toArray) (va_runV (b := E.1 (7, 0, 0)) (As := As.map (cv E)) (rest := rest.map (cv E)) ⟨hx0, hb, hml, hown, hts⟩ hM hcw ⟨pre_blind, hrec, pre_at hPw hK⟩ rfl (by rw [List.length_map]; exact hn) hlv.1 hsk (lv_room (by rw [cat_sum]; exact hcat)) hd hcs) hS (fun q _ h => AE_D hA hS q h) (AE_D hA hS) (fun r u t H1 locs1 ht hvm hw hB hz hk hS1 => ?_)
  obtain ⟨hr1, hx1, hX1, -⟩ := hw
  have hr2 : r = v := by cases hr1; rfl
  subst hr2
  obtain ⟨hP1, hD1⟩ := l_keep hP hD hk (by rw [← ht]; exact hB.2)
  exact kk E u p e s m args below meth c H1 locs1 ls C hc hA hB.1 hX1 hx1 hlen hlv hP1 hD1 hS1
/-- a call of a static method of the law that sees no object -/
theorem l_callS {k idx maxL n : Nat} {y : MethodName} {bytes : ByteArray} (v : Int32) (As : List AV) (rest : List AV)
    (hl : SLink RL idx y) (hm : MI y bytes maxL (some .int) n) (hC : ∀ σ, Con l k y bytes maxL (some .int) As σ (pureP v σ)) (hi : As.all isIL = true) (hn : As.length = n) (hR : k + 1 ≤ R.frames ∧ 8 + (maxL + 11) + 32 * k ≤ R.locals)
    (hs : st = As.reverse ++ rest) (hcat : (rest.map aCat).sum ≤ 8) (hcs : cs ≤ R.cells ∧ sl ≤ R.slots) (hd : decode cc pc = .ok (.invokestatic idx, 3))
    (kk : GL l R cc nL ret K (pc + 3) A B loc (vI v :: rest) X cs sl) : GL l R cc nL ret K pc A B loc st X cs sl := by
  intro E σ p e s m args below meth c H locs ls C hc hA hσ hX hx hlen hlv hP hD hS
  obtain ⟨hx0, hb, hml, hown, hts, hr, hlk, hK, hE⟩ := id C
  subst hs
  have has : ∀ v ∈ As, okV v := fun v hv => isIL_ok (List.all_eq_true.mp hi v hv)
  have hM := hC σ E hE hσ has H.size
  have hcw := va_cwS (own := RL) (index := idx) (y := y) (R := R) (args := args) (s := s) (bytes := bytes) (maxL := maxL) (ret := some .int) (rm := Rm k) (mc := 0) (ms := 0) (ws := .code y bytes maxL (some .int) :: TG) (ws' := TG) (Ts := TG) n hts (good_TG (fun w hw => by
      rcases List.mem_append.mp hw with h | h
      · simp only [List.mem_cons, List.not_mem_nil, or_false] at h
        rcases h with h | h | h
        · rw [h]; exact hl.1
        · rw [h]; exact hl.2.1
        · rw [h]; exact hl.2.2
      · rcases List.mem_cons.mp h with h | h
        · rw [h]; exact hm.1
        · exact h)) rfl rfl rfl hm.2 hR
  have hsk : (F0 m pc ls ((As.reverse ++ rest).map (cv E))).stack = (As.map (cv E)).reverse ++ rest.map (cv E) := by
    show (As.reverse ++ rest).map (cv E) = _
    rw [List.map_append, List.map_reverse]
  refine va_calli (a := (As.map (cv E)).toArray) (va_runS (As := As.map (cv E)) (rest := rest.map (cv E)) ⟨hx0, hb, hml, hown, hts⟩ hM hcw ⟨pre_blind, pre_at (P_left hP) hK⟩ rfl (by rw [List.length_map]; exact hn) hlv.1 hsk (lv_room (by rw [cat_sum]; exact hcat)) hd hcs) hS (fun q _ h => AE_D hA hS q h) (AE_D hA hS) (fun r u t H1 locs1 ht hvm hw hB hz hk hS1 => ?_)
  obtain ⟨hr1, hu⟩ := hw
  have hr2 : r = v := by cases hr1; rfl
  subst hr2
  subst hu
  obtain ⟨hP1, hD1⟩ := l_keep hP hD hk (by rw [← ht]; exact hB.2)
  exact kk E u p e s m args below meth c H1 locs1 ls C hc hA hB.1 hX hx hlen hlv hP1 hD1 hS1
end LROWS
/-! the law's own methods: their contracts -/
def QL (post : Int32 → XS → Prop) (E : EV) (D : Nat → Prop) : Array Value → State → Outcome → State → Prop := va_Qi (fun (r : Int32) (σ : Sg) => post r (xabs σ)) (fun σ t => POK σ ∧ XOK σ ∧ va_P E.2.1 vwCl (wsOf E σ) t.heap) D
def KM (post : Int32 → XS → Prop) (mc ms : Nat) : LK := fun E s args below => (True, (AE E s.heap.size, MQ below (fun a s o t => ∀ E' : EV, E'.2 = E.2 → (∀ q ∈ allLo, E'.1 q = E.1 q) → QL post E' (AE E s.heap.size) a s o t) args s mc ms (AE E s.heap.size)))
theorem AE_set {E : EV} {j a sz : Nat} : AE (setE E j a) sz = AE E sz := by
  funext x
  apply propext
  constructor
  · rintro (⟨q, hq, e⟩ | h)
    · exact Or.inl ⟨q, hq, by rw [e, setE_all hq]⟩
    · exact Or.inr h
  · rintro (⟨q, hq, e⟩ | h)
    · exact Or.inl ⟨q, hq, by rw [e, setE_all hq]⟩
    · exact Or.inr h
theorem KM_I {post : Int32 → XS → Prop} {mc ms : Nat} : KI (KM post mc ms) := by
  intro E j a s args below
  unfold KM
  rw [AE_set]
  have h : (fun (a' : Array Value) (s' : State) (o : Outcome) (t : State) => ∀ E' : EV, E'.2 = (setE E j a).2 → (∀ q ∈ allLo, E'.1 q = (setE E j a).1 q) → QL post E' (AE (setE E j a) s'.heap.size) a' s' o t) = (fun (a' : Array Value) (s' : State) (o : Outcome) (t : State) => ∀ E' : EV, E'.2 = E.2 → (∀ q ∈ allLo, E'.1 q = E.1 q) → QL post E' (AE E s'.heap.size) a' s' o t) := by
    funext a' s' o t
    apply propext
    constructor
    · intro h E' h1 h2
      have := h E' h1 (fun q hq => by rw [setE_all hq]; exact h2 q hq)
      rw [AE_set] at this
      exact this
    · intro h E' h1 h2
      rw [AE_set]
      exact h E' h1 (fun q hq => by rw [h2 q hq, setE_all hq])
  rw [h]
def LCon (l : Launch) (R : Room) (y : MethodName) (cc : ByteArray) (nL : Nat) (as : List AV) (X : XS) (post : Int32 → XS → Prop) : Prop :=
  ∀ (E : EV) (σ : Sg), AdOK E → POK σ → XOK σ → xabs σ = X → ∀ sz : Nat, Met l y (.code y cc nL (some .boolean) :: TG) R (va_Pc (as.map (cv E)) (fun U => U.heap.size = sz ∧ va_P E.2.1 vwCl (wsOf E σ) U.heap ∧ KE E U)) (QL post E (AE E sz)) R.cells R.slots (AE E sz)
def RL_ (k mc ms n : Nat) : Room := { frames := k, cells := mc, slots := ms, locals := n }
theorem ws_same {E E' : EV} {σ : Sg} (hσ : POK σ) (h1 : E'.2 = E.2) (h2 : ∀ q ∈ allLo, E'.1 q = E.1 q) : wsOf E' σ = wsOf E σ := by
  unfold wsOf
  apply List.map_congr_left
  intro q hq
  have hf : ∀ (l : List FS) (V : Nat → Int32) (k : Nat), l.all fsOk = true → fvs E' V k l = fvs E V k l := by
    intro l V
    induction l with
    | nil => intro k _; rfl
    | cons f r ih =>
      intro k h
      rw [List.all_cons, Bool.and_eq_true] at h
      rw [fvs, fvs, ih (k + 1) h.2]
      congr 1
      rcases f with _ | c | q
      · rfl
      · rfl
      · show Value.ref (E'.1 q) = Value.ref (E.1 q)
        have h3 : decide (q ∈ allLo) = true := h.1
        rw [h2 q (of_decide_eq_true h3)]
  have he : entry E' σ q = entry E σ q := by
    have h3 := sh_closed q hq
    unfold shOk at h3
    unfold entry
    split <;> rename_i hs
    · rw [hs] at h3
      rw [hf _ _ _ h3]
    · rw [h1]
    · rw [h1]
    · have hf : (fun i => some (E'.1 (2, 0, σ.2 i))) = (fun i => some (E.1 (2, 0, σ.2 i))) := funext fun i => by rw [h2 _ (lo_H (hσ i))]
      rw [hf, h1]
  rw [h2 q hq, he]
section LCONS
variable {l : Launch} {R : Room} {cc : ByteArray} {nL : Nat} {ret : Option FieldType} {K : LK} {pc : Nat} {A : List Nat} {B : LB} {loc : List (Option AV)} {st : List AV} {X : XS} {cs sl : Nat}
theorem lcon_of {y : MethodName} {as : List AV} {post : Int32 → XS → Prop} (hy : plainName y.cls = true) (hc : y.cls = RL) (hn : (elc as).length ≤ nL) (b : ∀ B : LB, GL l R cc nL (some .boolean) (KM post R.cells R.slots) 0 [] B (eloc nL as) [] X 0 0) : LCon l R y cc nL as X post := by
  intro E σ hE hσ hX hx sz
  refine Met.ofW (cc := cc) (maxL := nL) (ret := some .boolean) hy rfl ?_
  intro p e s m args below meth c s₁ B0 hml hv
  obtain ⟨rfl, hsz, hP, hK⟩ := hv
  subst hsz
  have hts := atoms_spec (ws := .code y cc nL (some .boolean) :: TG) B0.pre
  have hl := lv_entry (as.map (cv E)) (n := nL) (by rw [lg_len]; exact hn)
  rw [lg_entry_eq]
  generalize (lg_sl (as.map (cv E)) ++ List.replicate (nL - (lg_sl (as.map (cv E))).length) Slot.unset).toArray = ls at hl ⊢
  have hown : s.vm.findClass RL = some m.cls := by rw [← hc]; exact findClass_of_methodNamed B0.named
  have hw0 : wsOf E σ ++ wsL E [] (fun _ _ => 0) = wsOf E σ := List.append_nil _
  have fin := b (fun _ _ => 0) E σ p e s m (as.map (cv E)).toArray below meth c s.heap [] ls ⟨B0.exec, B0.bytes, hml, hown, fun w hw => hts w (List.mem_cons_of_mem _ hw), B0.returns, B0.notSynchronized, hK, hE⟩ trivial ⟨fun q hq => Or.inl ⟨q, hq, rfl⟩, fun a ha => Or.inr ha⟩ hσ hX hx
    (by rw [eloc, List.length_append, List.length_replicate]; omega) ⟨hl.1, hl.2.1, fun q hq => hl.2.2 q (elc_sub E _ as 0 q hq)⟩ (by rw [hw0]; exact hP) (by rw [hw0]; exact ws_D hE) va_S.rf
  refine fun T hT X => ?_
  obtain ⟨t, h1, o, h2, h3, h4, h5⟩ := fin T hT X
  exact ⟨t, h1, o, h2, h3, h4 E rfl (fun _ _ => rfl), h5⟩
theorem l_zret {v : Int32} {post : Int32 → XS → Prop} {mc ms : Nat} (hcs : cs ≤ mc ∧ sl ≤ ms) (hz : v = 0 ∨ v = 1) (hp : post v X) (hd : decode cc pc = .ok (.ireturn, 1)) : GL l R cc nL (some .boolean) (KM post mc ms) pc A B loc [vI v] X cs sl := by
  intro E σ p e s m args below meth c H locs ls C hc hA hσ hX hx hlen hlv hP hD hS
  show W p l e R s m args below meth c H locs cs sl (MQ below (fun (a : Array Value) (s : State) (o : Outcome) (t : State) => ∀ E' : EV, E'.2 = E.2 → (∀ q ∈ allLo, E'.1 q = E.1 q) → QL post E' (AE E s.heap.size) a s o t) args s mc ms (AE E s.heap.size)) (F0 m pc ls [.int v])
  refine W.widen hcs.1 hcs.2 (W.zret (v := v) C.1 C.2.1 C.2.2.2.2.2.1 (by rcases hz with q | q <;> rw [q] <;> rfl) (fun t ht hW E' h1 h2 => ?_) hS.2.2 hd C.2.2.2.2.2.2.1)
  have hP2 : va_P E'.2.1 vwCl (wsOf E' σ) t.heap := by
    rw [ht, ws_same hσ h1 h2, h1]
    exact P_left hP
  exact ⟨⟨v, σ, rfl, (show post v (xabs σ) by rw [hx]; exact hp), hσ, hX, hP2⟩, hS.F ht⟩
/-- a call of one of the law's own methods -/
theorem l_callM {idx maxL n : Nat} {R' : Room} {y : MethodName} {bytes : ByteArray} {P : Int32 → XS → Prop} (As : List AV) (rest : List AV)
    (hl : SLink RL idx y) (hm : MI y bytes maxL (some .boolean) n) (hC : LCon l R' y bytes maxL As X P) (hn : As.length = n) (hR : R'.frames + 1 ≤ R.frames ∧ 8 + (maxL + 11) + R'.locals ≤ R.locals)
    (hs : st = As.reverse ++ rest) (hcat : (rest.map aCat).sum ≤ 8) (hcs : cs + R'.cells ≤ R.cells ∧ sl + R'.slots ≤ R.slots) (hd : decode cc pc = .ok (.invokestatic idx, 3))
    (kk : ∀ (v : Int32) (X' : XS), P v X' → GL l R cc nL ret K (pc + 3) A B loc (vI v :: rest) X' (cs + R'.cells) (sl + R'.slots)) : GL l R cc nL ret K pc A B loc st X cs sl := by
  intro E σ p e s m args below meth c H locs ls C hc hA hσ hX hx hlen hlv hP hD hS
  obtain ⟨hx0, hb, hml, hown, hts, hr, hlk, hK, hE⟩ := id C
  subst hs
  have hM := hC E σ hE hσ hX hx H.size
  have hcw := va_cwS (own := RL) (index := idx) (y := y) (R := R) (args := args) (s := s) (bytes := bytes) (maxL := maxL) (ret := some .boolean) (rm := R') (mc := R'.cells) (ms := R'.slots) (ws := .code y bytes maxL (some .boolean) :: TG) (ws' := TG) (Ts := TG) n hts (good_TG (fun w hw => by
      rcases List.mem_append.mp hw with h | h
      · simp only [List.mem_cons, List.not_mem_nil, or_false] at h
        rcases h with h | h | h
        · rw [h]; exact hl.1
        · rw [h]; exact hl.2.1
        · rw [h]; exact hl.2.2
      · rcases List.mem_cons.mp h with h | h
        · rw [h]; exact hm.1
        · exact h)) rfl rfl rfl hm.2 hR
  have hsk : (F0 m pc ls ((As.reverse ++ rest).map (cv E))).stack = (As.map (cv E)).reverse ++ rest.map (cv E) := by
    show (As.reverse ++ rest).map (cv E) = _
    rw [List.map_append, List.map_reverse]
  refine va_calli (a := (As.map (cv E)).toArray) (va_runS (As := As.map (cv E)) (rest := rest.map (cv E)) ⟨hx0, hb, hml, hown, hts⟩ hM hcw ⟨pre_blind, pre_at (P_left hP) hK⟩ rfl (by rw [List.length_map]; exact hn) hlv.1 hsk (lv_room (by rw [cat_sum]; exact hcat)) hd hcs) hS (fun q _ h => AE_D hA hS q h) (AE_D hA hS) (fun r u t H1 locs1 ht hvm hw hB hz hk hS1 => ?_)
  obtain ⟨hP1, hD1⟩ := l_keep hP hD hk (by rw [← ht]; exact hB.2.2)
  exact kk r (xabs u) hw E u p e s m args below meth c H1 locs1 ls C hc hA hB.1 hB.2.1 rfl hlen hlv hP1 hD1 hS1
end LCONS
