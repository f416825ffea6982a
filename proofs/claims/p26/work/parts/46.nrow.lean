/-! MAKING: a judgement over a list of cells, for the constructors -/
theorem t_oi : Cond.instanceMethod objectInit ∈ TG ∧ Cond.code objectInit ⟨#[0xb1]⟩ 1 none ∈ TG := ⟨tg 37 (by decide +kernel) (by decide +kernel), tg 38 (by decide +kernel) (by decide +kernel)⟩
theorem t_ai : Cond.arrayClass .int ∈ TG := tg 67 (by decide +kernel) (by decide +kernel)
theorem t_ac : Cond.arrayClass .char ∈ TG := tg 155 (by decide +kernel) (by decide +kernel)
abbrev XV : Type := va_G × (Nat → ClassId)
def KN (X : XV) (U : State) : Prop := KE (fun _ => 0, X) U ∧ va_AO RX1 U
def CN (X : XV) (own : String) (cc : ByteArray) (nL : Nat) (ret : Option FieldType) (ini : Bool) (p : Program) (s : State) (m : MethodId) (args : Array Value) (meth : Method) (c : Code) : Prop :=
  p.tables.exec = Jvm.exec ∧ c.code = cc ∧ c.maxLocals = nL ∧ s.vm.findClass own = some m.cls ∧ (∀ w ∈ TG, w.before args s = true) ∧ meth.sig.returnType = ret ∧ meth.locks = false ∧ KN X s ∧ (ini = true → meth.name = "<init>")
def NB (X : XV) (A : Nat → Prop) (u : va_W) (t : State) : Prop := va_P X.1 vwCl u t.heap ∧ va_D A u
def NQ (ret : Option FieldType) (post : Option Int32 → va_W → Prop) (X : XV) (A : Nat → Prop) : Array Value → State → Outcome → State → Prop := match ret with
  | none => va_Qv (fun u : va_W => post none u) (NB X A) A
  | some _ => va_Qi (fun (r : Int32) (u : va_W) => post (some r) u) (NB X A) A
def RN (k mc ms : Nat) : Room := { frames := k, cells := mc, slots := ms, locals := 32 * k }
def GN (l : Launch) (X : XV) (k mc ms : Nat) (own : String) (cc : ByteArray) (nL : Nat) (ret : Option FieldType) (ini : Bool) (post : Option Int32 → va_W → Prop) (w0 : va_W) (pc : Nat) (lv : List (Nat × Value)) (st : List Value) (ws : va_W) (cells slots : Nat) : Prop :=
  ∀ (p : Program) (e : Env) (s : State) (m : MethodId) (args : Array Value) (below : List Frame) (meth : Method) (c : Code) (H : Heap) (locs : List Jvm.Loc) (ls : Array Slot),
    CN X own cc nL ret ini p s m args meth c → va_P X.1 vwCl ws H → va_D (va_A w0 s.heap.size) ws → va_S (va_A w0 s.heap.size) s.heap H locs → lv_has ls nL lv →
    W p l e (RN k mc ms) s m args below meth c H locs cells slots (MQ below (NQ ret post X (va_A w0 s.heap.size)) args s mc ms (va_A w0 s.heap.size)) (F0 m pc ls st)
def NCon (l : Launch) (X : XV) (k mc ms : Nat) (y : MethodName) (cc : ByteArray) (nL : Nat) (ret : Option FieldType) (as : List Value) (w0 : va_W) (post : Option Int32 → va_W → Prop) : Prop :=
  ∀ sz : Nat, Met l y (.code y cc nL ret :: TG) (RN k mc ms) (va_Pc as (fun U => U.heap.size = sz ∧ va_P X.1 vwCl w0 U.heap ∧ va_D (fun _ => True) w0 ∧ KN X U)) (NQ ret post X (va_A w0 sz)) mc ms (va_A w0 sz)
theorem KN.moved {X : XV} {s U : State} (hW : s.WarmedH U.vm) (h : KN X s) : KN X U := ⟨⟨va_K.moved hW.alike h.1.1, nest_warm hW h.1.2⟩, h.2.moved hW.alike⟩
section NROWS
variable {l : Launch} {X : XV} {k mc ms : Nat} {own : String} {cc : ByteArray} {nL : Nat} {ret : Option FieldType} {ini : Bool} {post : Option Int32 → va_W → Prop} {w0 : va_W} {pc : Nat} {lv : List (Nat × Value)} {st : List Value} {ws : va_W} {cells slots : Nat}
theorem ncon_of {y : MethodName} {as : List Value} (hy : plainName y.cls = true) (hn : (lg_sl as).length ≤ nL) (hi : ini = true → y.name = "<init>") (b : GN l X k mc ms y.cls cc nL ret ini post w0 0 (lv_args 0 as) [] w0 0 0) : NCon l X k mc ms y cc nL ret as w0 post := by
  intro sz
  refine Met.ofW (cc := cc) (maxL := nL) (ret := ret) hy rfl ?_
  intro p e s m args below meth c s₁ B hml hv
  obtain ⟨rfl, hsz, hP, hD, hK⟩ := hv
  subst hsz
  have hts := atoms_spec (ws := .code y cc nL ret :: TG) B.pre
  have hl := lv_entry as (n := nL) hn
  rw [lg_entry_eq]
  generalize (lg_sl as ++ List.replicate (nL - (lg_sl as).length) Slot.unset).toArray = ls at hl ⊢
  exact b p e s m _ below meth c s.heap [] ls ⟨B.exec, B.bytes, hml, findClass_of_methodNamed B.named, fun w hw => hts w (List.mem_cons_of_mem _ hw), B.returns, B.notSynchronized, hK, fun h => by rw [(name_of_methodNamed B.named B.method).1]; exact hi h⟩ hP hD.self va_S.rf hl
theorem gn_ws {ws' : va_W} (h : ws = ws') (kk : GN l X k mc ms own cc nL ret ini post w0 pc lv st ws' cells slots) : GN l X k mc ms own cc nL ret ini post w0 pc lv st ws cells slots := by rw [h]; exact kk
theorem gn_lv {lv' : List (Nat × Value)} (ks : List Nat) (h : lv_pick lv ks = lv') (kk : GN l X k mc ms own cc nL ret ini post w0 pc lv' st ws cells slots) : GN l X k mc ms own cc nL ret ini post w0 pc lv st ws cells slots := by
  intro p e s m args below meth c H locs ls C hP hD hS hl
  exact kk p e s m args below meth c H locs ls C hP hD hS (lv_sub hl ks h)
theorem gn_wide {c2 s2 : Nat} (h1 : cells ≤ c2) (h2 : slots ≤ s2) (kk : GN l X k mc ms own cc nL ret ini post w0 pc lv st ws c2 s2) : GN l X k mc ms own cc nL ret ini post w0 pc lv st ws cells slots := by
  intro p e s m args below meth c H locs ls C hP hD hS hl
  exact W.widen h1 h2 (kk p e s m args below meth c H locs ls C hP hD hS hl)
theorem gn_al {i : Fin 4} {pl h : Nat} (hd : decode cc pc = .ok (.aload_n i, 1)) (hp : lv[pl]? = some ((i : Nat), .ref h)) (kk : GN l X k mc ms own cc nL ret ini post w0 (pc + 1) lv (.ref h :: st) ws cells slots) : GN l X k mc ms own cc nL ret ini post w0 pc lv st ws cells slots := by
  intro p e s m args below meth c H locs ls C hP hD hS hl
  exact lv_aload_n C.1 C.2.1 hd rfl (lv_at hl pl hp) (kk p e s m args below meth c H locs ls C hP hD hS hl)
theorem gn_iln {i : Fin 4} {pl : Nat} {x : Int32} (hd : decode cc pc = .ok (.iload_n i, 1)) (hp : lv[pl]? = some ((i : Nat), .int x)) (kk : GN l X k mc ms own cc nL ret ini post w0 (pc + 1) lv (.int x :: st) ws cells slots) : GN l X k mc ms own cc nL ret ini post w0 pc lv st ws cells slots := by
  intro p e s m args below meth c H locs ls C hP hD hS hl
  exact lv_iload_n C.1 C.2.1 hd rfl (lv_at hl pl hp) (kk p e s m args below meth c H locs ls C hP hD hS hl)
theorem gn_il {i pl : Nat} {x : Int32} (hd : decode cc pc = .ok (.iload i, 2)) (hp : lv[pl]? = some (i, .int x)) (kk : GN l X k mc ms own cc nL ret ini post w0 (pc + 2) lv (.int x :: st) ws cells slots) : GN l X k mc ms own cc nL ret ini post w0 pc lv st ws cells slots := by
  intro p e s m args below meth c H locs ls C hP hD hS hl
  exact lv_iload C.1 C.2.1 hd (lv_at hl pl hp) (kk p e s m args below meth c H locs ls C hP hD hS hl)
theorem gn_ic {n : Int} (v : Int32) (hd : decode cc pc = .ok (.iconst n, 1)) (hv : Int32.ofInt n = v) (kk : GN l X k mc ms own cc nL ret ini post w0 (pc + 1) lv (.int v :: st) ws cells slots) : GN l X k mc ms own cc nL ret ini post w0 pc lv st ws cells slots := by
  intro p e s m args below meth c H locs ls C hP hD hS hl
  exact lv_iconst C.1 C.2.1 hd hv (kk p e s m args below meth c H locs ls C hP hD hS hl)
theorem gn_bi {n : Int} (v : Int32) (hd : decode cc pc = .ok (.bipush n, 2)) (hv : (Int8.ofInt n).toInt32 = v) (kk : GN l X k mc ms own cc nL ret ini post w0 (pc + 2) lv (.int v :: st) ws cells slots) : GN l X k mc ms own cc nL ret ini post w0 pc lv st ws cells slots := by
  intro p e s m args below meth c H locs ls C hP hD hS hl
  exact lv_bipush C.1 C.2.1 hd hv (kk p e s m args below meth c H locs ls C hP hD hS hl)
theorem gn_si {n : Int} (v : Int32) (hd : decode cc pc = .ok (.sipush n, 3)) (hv : (Int16.ofInt n).toInt32 = v) (kk : GN l X k mc ms own cc nL ret ini post w0 (pc + 3) lv (.int v :: st) ws cells slots) : GN l X k mc ms own cc nL ret ini post w0 pc lv st ws cells slots := by
  intro p e s m args below meth c H locs ls C hP hD hS hl
  exact lv_sipush C.1 C.2.1 hd hv (kk p e s m args below meth c H locs ls C hP hD hS hl)
theorem gn_dup {h : Nat} (hd : decode cc pc = .ok (.dup, 1)) (kk : GN l X k mc ms own cc nL ret ini post w0 (pc + 1) lv (.ref h :: .ref h :: st) ws cells slots) : GN l X k mc ms own cc nL ret ini post w0 pc lv (.ref h :: st) ws cells slots := by
  intro p e s m args below meth c H locs ls C hP hD hS hl
  exact lv_dup C.1 C.2.1 hd rfl (kk p e s m args below meth c H locs ls C hP hD hS hl)
theorem gn_pop {x : Int32} (hd : decode cc pc = .ok (.pop, 1)) (kk : GN l X k mc ms own cc nL ret ini post w0 (pc + 1) lv st ws cells slots) : GN l X k mc ms own cc nL ret ini post w0 pc lv (.int x :: st) ws cells slots := by
  intro p e s m args below meth c H locs ls C hP hD hS hl
  exact lv_pop C.1 C.2.1 hd rfl (kk p e s m args below meth c H locs ls C hP hD hS hl)
theorem gn_add {x y : Int32} (hd : decode cc pc = .ok (.iadd, 1)) (kk : GN l X k mc ms own cc nL ret ini post w0 (pc + 1) lv (.int (x + y) :: st) ws cells slots) : GN l X k mc ms own cc nL ret ini post w0 pc lv (.int y :: .int x :: st) ws cells slots := by
  intro p e s m args below meth c H locs ls C hP hD hS hl
  exact lv_iadd C.1 C.2.1 hd (kk p e s m args below meth c H locs ls C hP hD hS hl)
theorem gn_sub {x y : Int32} (hd : decode cc pc = .ok (.isub, 1)) (kk : GN l X k mc ms own cc nL ret ini post w0 (pc + 1) lv (.int (x - y) :: st) ws cells slots) : GN l X k mc ms own cc nL ret ini post w0 pc lv (.int y :: .int x :: st) ws cells slots := by
  intro p e s m args below meth c H locs ls C hP hD hS hl
  exact lv_isub C.1 C.2.1 hd (kk p e s m args below meth c H locs ls C hP hD hS hl)
theorem gn_mul {x y : Int32} (hd : decode cc pc = .ok (.imul, 1)) (kk : GN l X k mc ms own cc nL ret ini post w0 (pc + 1) lv (.int (x * y) :: st) ws cells slots) : GN l X k mc ms own cc nL ret ini post w0 pc lv (.int y :: .int x :: st) ws cells slots := by
  intro p e s m args below meth c H locs ls C hP hD hS hl
  exact lv_imul C.1 C.2.1 hd (kk p e s m args below meth c H locs ls C hP hD hS hl)
theorem gn_max {idx : Nat} {x y v : Int32} (hl0 : Cond.methodLink own idx Lib.Math.max.name ∈ TG) (hv : (if x < y then y else x) = v) (hk : 1 ≤ k) (hst : (st.map fun v => v.category).sum + 13 ≤ 32 * k) (hcs : cells ≤ mc ∧ slots ≤ ms) (hd : decode cc pc = .ok (.invokestatic idx, 3)) (kk : GN l X k mc ms own cc nL ret ini post w0 (pc + 3) lv (.int v :: st) ws cells slots) : GN l X k mc ms own cc nL ret ini post w0 pc lv (.int y :: .int x :: st) ws cells slots := by
  intro p e s m args below meth c H locs ls C hP hD hS hl
  obtain ⟨hx, hb, hml, hown, hts, hr, hlk, hK, hin⟩ := id C
  subst hv
  exact va_mmax hx hb (by rw [hml]; exact hl.1.symm) hown (hts _ hl0) (hts _ j_max.1) (hts _ j_max.2.1) (hts _ j_max.2.2) hk hst hcs.1 hcs.2 hd (kk p e s m args below meth c H locs ls C hP hD hS hl)
theorem gn_goto {off : Int} {tgt : Nat} (hd : decode cc pc = .ok (.goto off, 3)) (ht : (pc : Int) + off = (tgt : Int)) (kk : GN l X k mc ms own cc nL ret ini post w0 tgt lv st ws cells slots) : GN l X k mc ms own cc nL ret ini post w0 pc lv st ws cells slots := by
  intro p e s m args below meth c H locs ls C hP hD hS hl
  exact lv_goto C.1 C.2.1 hd ht (kk p e s m args below meth c H locs ls C hP hD hS hl)
theorem gn_lt0 {x : Int32} {off : Int} {tgt : Nat} (hx : ¬ x < 0) (hd : decode cc pc = .ok (.ifCond .lt off, 3)) (ht : (pc : Int) + off = (tgt : Int)) (kk : GN l X k mc ms own cc nL ret ini post w0 (pc + 3) lv st ws cells slots) : GN l X k mc ms own cc nL ret ini post w0 pc lv (.int x :: st) ws cells slots := by
  intro p e s m args below meth c H locs ls C hP hD hS hl
  exact lv_if_lt C.1 C.2.1 hd ht (fun z => absurd z hx) (fun _ => kk p e s m args below meth c H locs ls C hP hD hS hl)
theorem gn_eqT {off : Int} {tgt : Nat} (hd : decode cc pc = .ok (.ifCond .eq off, 3)) (ht : (pc : Int) + off = (tgt : Int)) (kk : GN l X k mc ms own cc nL ret ini post w0 tgt lv st ws cells slots) : GN l X k mc ms own cc nL ret ini post w0 pc lv (.int 0 :: st) ws cells slots := by
  intro p e s m args below meth c H locs ls C hP hD hS hl
  exact lv_if_eq C.1 C.2.1 hd ht (fun _ => kk p e s m args below meth c H locs ls C hP hD hS hl) (fun z => absurd rfl z)
theorem gn_geT {x y : Int32} {off : Int} {tgt : Nat} (hxy : y ≤ x) (hd : decode cc pc = .ok (.if_icmp .ge off, 3)) (ht : (pc : Int) + off = (tgt : Int)) (kk : GN l X k mc ms own cc nL ret ini post w0 tgt lv st ws cells slots) : GN l X k mc ms own cc nL ret ini post w0 pc lv (.int y :: .int x :: st) ws cells slots := by
  intro p e s m args below meth c H locs ls C hP hD hS hl
  exact lv_icmp_ge C.1 C.2.1 hd ht (fun _ => kk p e s m args below meth c H locs ls C hP hD hS hl) (fun z => absurd hxy z)
theorem gn_geF {x y : Int32} {off : Int} {tgt : Nat} (hxy : ¬ y ≤ x) (hd : decode cc pc = .ok (.if_icmp .ge off, 3)) (ht : (pc : Int) + off = (tgt : Int)) (kk : GN l X k mc ms own cc nL ret ini post w0 (pc + 3) lv st ws cells slots) : GN l X k mc ms own cc nL ret ini post w0 pc lv (.int y :: .int x :: st) ws cells slots := by
  intro p e s m args below meth c H locs ls C hP hD hS hl
  exact lv_icmp_ge C.1 C.2.1 hd ht (fun z => absurd z hxy) (fun _ => kk p e s m args below meth c H locs ls C hP hD hS hl)
theorem gn_ltT {x y : Int32} {off : Int} {tgt : Nat} (hxy : x < y) (hd : decode cc pc = .ok (.if_icmp .lt off, 3)) (ht : (pc : Int) + off = (tgt : Int)) (kk : GN l X k mc ms own cc nL ret ini post w0 tgt lv st ws cells slots) : GN l X k mc ms own cc nL ret ini post w0 pc lv (.int y :: .int x :: st) ws cells slots := by
  intro p e s m args below meth c H locs ls C hP hD hS hl
  exact lv_icmp_lt C.1 C.2.1 hd ht (fun _ => kk p e s m args below meth c H locs ls C hP hD hS hl) (fun z => absurd hxy z)
theorem gn_istn {i : Fin 4} {x : Int32} {lv' : List (Nat × Value)} (hd : decode cc pc = .ok (.istore_n i, 1)) (hi : (i : Nat) < nL) (hl' : ((i : Nat), Value.int x) :: lv.filter (fun q => !(q.1 == (i : Nat)) && !(q.1 + 1 == (i : Nat) && q.2.category == 2)) = lv') (kk : GN l X k mc ms own cc nL ret ini post w0 (pc + 1) lv' st ws cells slots) : GN l X k mc ms own cc nL ret ini post w0 pc lv (.int x :: st) ws cells slots := by
  intro p e s m args below meth c H locs ls C hP hD hS hl
  exact lv_istore_n C.1 C.2.1 hd rfl hl hi hl' (fun ls hl => kk p e s m args below meth c H locs ls C hP hD hS hl)
theorem gn_ist {i : Nat} {x : Int32} {lv' : List (Nat × Value)} (hd : decode cc pc = .ok (.istore i, 2)) (hi : i < nL) (hl' : (i, Value.int x) :: lv.filter (fun q => !(q.1 == i) && !(q.1 + 1 == i && q.2.category == 2)) = lv') (kk : GN l X k mc ms own cc nL ret ini post w0 (pc + 2) lv' st ws cells slots) : GN l X k mc ms own cc nL ret ini post w0 pc lv (.int x :: st) ws cells slots := by
  intro p e s m args below meth c H locs ls C hP hD hS hl
  exact lv_istore C.1 C.2.1 hd hl hi hl' (fun ls hl => kk p e s m args below meth c H locs ls C hP hD hS hl)
theorem gn_inc {i pl : Nat} {n : Int} {x v : Int32} {lv' : List (Nat × Value)} (hd : decode cc pc = .ok (.iinc i n, 3)) (hp : lv[pl]? = some (i, .int x)) (hv : x + Int32.ofInt n = v) (hi : i < nL) (hl' : (i, Value.int v) :: lv.filter (fun q => !(q.1 == i) && !(q.1 + 1 == i && q.2.category == 2)) = lv') (kk : GN l X k mc ms own cc nL ret ini post w0 (pc + 3) lv' st ws cells slots) : GN l X k mc ms own cc nL ret ini post w0 pc lv st ws cells slots := by
  intro p e s m args below meth c H locs ls C hP hD hS hl
  exact lv_iinc C.1 C.2.1 hd hl hp hv hi hl' (fun ls hl => kk p e s m args below meth c H locs ls C hP hD hS hl)
theorem gn_get {fl : List (Nat × Nat × Nat)} (hfl : ∀ e ∈ fl, FLw own e) (index ci kf q0 : Nat) {a : Nat} {fs : List Value} (v : Value) (hi : (index, ci, kf) ∈ fl) (he : ws[q0]? = some (a, .inr (ci, fs))) (hv : fs[kf]? = some v) (hd : decode cc pc = .ok (.getfield index, 3)) (kk : GN l X k mc ms own cc nL ret ini post w0 (pc + 3) lv (v :: st) ws cells slots) : GN l X k mc ms own cc nL ret ini post w0 pc lv (.ref a :: st) ws cells slots := by
  intro p e s m args below meth c H locs ls C hP hD hS hl
  obtain ⟨hx, hb, hml, hown, hts, hr, hlk, hK, hin⟩ := id C
  obtain ⟨r, hr1, hr2, hr3, hr4⟩ := hfl _ hi
  have fin := kk p e s m args below meth c H locs ls C hP hD hS hl
  rcases hr4 with hw | hw
  · exact va_get hx hb hts (iw_all ci r hr1) hown hK.1.1 hP q0 he hr1 kf hr2 (hts _ hw) (fun y hy => by rw [← dsc_same ci r hr1 kf hr2]; exact hy) hv hd fin
  · exact va_getN hx hb hts (iw_all ci r hr1) hown hK.1.1 hP q0 he hr1 kf hr2 (va_Nw.use rfl (hK.1.2 _ hw)) (fun y hy => by rw [← dsc_same ci r hr1 kf hr2]; exact hy) hv hd fin
theorem gn_putF (index ci kf q0 : Nat) {r : vw_C} {a : Nat} {fs : List Value} {v : Value} (hii : ini = true) (hr1 : vwCl[ci]? = some r) (hkf : kf < r.2.2) (hw : Cond.fieldLink own index r.1 (r.2.1 kf).2.1 (r.2.1 kf).2.2.1 ∈ TG) (he : ws[q0]? = some (a, .inr (ci, fs))) (f1 : (r.2.1 kf).2.2.2 = true) (f2 : (r.2.1 kf).1 = own) (hn : narrow (tyAll ci kf) v = v) (hfit : fits (tyAll ci kf) v = true) (hlen : kf < fs.length) (hd : decode cc pc = .ok (.putfield index, 3)) (kk : GN l X k mc ms own cc nL ret ini post w0 (pc + 3) lv st (ws.set q0 (a, .inr (ci, fs.set kf v))) cells slots) : GN l X k mc ms own cc nL ret ini post w0 pc lv (v :: .ref a :: st) ws cells slots := by
  intro p e s m args below meth c H locs ls C hP hD hS hl
  obtain ⟨hx, hb, hml, hown, hts, hr, hlk, hK, hin⟩ := id C
  exact va_putF hx hb hts (iw_all ci r hr1) (tyAll ci) (ty_all ci r hr1) (nm_all ci r hr1) hown hK.1.1 hP hD hS q0 he hr1 kf hkf (hts _ hw) (fun y hy => by rw [← dsc_same ci r hr1 kf hkf]; exact hy) f1 (hin hii) f2 (ty_all ci r hr1 kf hkf) hn hfit hlen hd (fun H1 locs1 hP1 hD1 hS1 => kk p e s m args below meth c H1 locs1 ls C hP1 hD1 hS1 hl)
theorem gn_put (index ci kf q0 : Nat) {r : vw_C} {a : Nat} {fs : List Value} {v : Value} (hr1 : vwCl[ci]? = some r) (hkf : kf < r.2.2) (hw : Cond.fieldLink own index r.1 (r.2.1 kf).2.1 (r.2.1 kf).2.2.1 ∈ TG) (he : ws[q0]? = some (a, .inr (ci, fs))) (f1 : (r.2.1 kf).2.2.2 = false) (hn : narrow (tyAll ci kf) v = v) (hfit : fits (tyAll ci kf) v = true) (hlen : kf < fs.length) (hd : decode cc pc = .ok (.putfield index, 3)) (kk : GN l X k mc ms own cc nL ret ini post w0 (pc + 3) lv st (ws.set q0 (a, .inr (ci, fs.set kf v))) cells slots) : GN l X k mc ms own cc nL ret ini post w0 pc lv (v :: .ref a :: st) ws cells slots := by
  intro p e s m args below meth c H locs ls C hP hD hS hl
  obtain ⟨hx, hb, hml, hown, hts, hr, hlk, hK, hin⟩ := id C
  exact va_put hx hb hts (iw_all ci r hr1) (tyAll ci) (ty_all ci r hr1) (nm_all ci r hr1) hown hK.1.1 hP hD hS q0 he hr1 kf hkf (hts _ hw) (fun y hy => by rw [← dsc_same ci r hr1 kf hkf]; exact hy) f1 (ty_all ci r hr1 kf hkf) hn hfit hlen hd (fun H1 locs1 hP1 hD1 hS1 => kk p e s m args below meth c H1 locs1 ls C hP1 hD1 hS1 hl)
theorem gn_new {idx : Nat} (ci : Nat) {r : vw_C} (fs : List Value) (hr1 : vwCl[ci]? = some r) (hcl : Cond.classLink own idx r.1 ∈ TG) (hin : Cond.instantiable r.1 r.2.2 ∈ TG) (hini : Cond.initialized r.1 ∈ TG) (hfs : ∀ j, j < r.2.2 → defaultValue (tyAll ci j) = vp_V fs j) (hcs : cells + 1 ≤ mc ∧ slots + r.2.2 ≤ ms) (hd : decode cc pc = .ok (.new idx, 3)) (kk : ∀ q : Nat, GN l X k mc ms own cc nL ret ini post w0 (pc + 3) lv (.ref q :: st) (ws ++ [(q, .inr (ci, fs))]) (cells + 1) (slots + r.2.2)) : GN l X k mc ms own cc nL ret ini post w0 pc lv st ws cells slots := by
  intro p e s m args below meth c H locs ls C hP hD hS hl
  obtain ⟨hx, hb, hml, hown, hts, hr, hlk, hK, hinI⟩ := id C
  exact va_new (ci := ci) (C := r.1) (T := r.2.1) (N := r.2.2) hx hb hts (iw_all ci r hr1) (tyAll ci) (ty_all ci r hr1) hown (hts _ hcl) (hts _ hin) (hts _ hini) hK.1.1 hP hD hS (fun q h => Or.inr h) hr1 hfs hcs.1 hcs.2 hd (fun q H1 hP1 hD1 hS1 => kk q p e s m args below meth c H1 locs ls C hP1 hD1 hS1 hl)
theorem gn_newi {n : Int32} (N : Nat) (hn : ¬ n < 0) (hN : n.toNatClampNeg = N) (hbt : N * 4 ≤ 536870912) (hcs : cells + 1 ≤ mc ∧ slots + N ≤ ms) (hd : decode cc pc = .ok (.newarray .int, 2)) (kk : ∀ q : Nat, GN l X k mc ms own cc nL ret ini post w0 (pc + 2) lv (.ref q :: st) (ws ++ [(q, .inl (X.2 0, N, .inl (fun _ => 0)))]) (cells + 1) (slots + N)) : GN l X k mc ms own cc nL ret ini post w0 pc lv (.int n :: st) ws cells slots := by
  intro p e s m args below meth c H locs ls C hP hD hS hl
  obtain ⟨hx, hb, hml, hown, hts, hr, hlk, hK, hin⟩ := id C
  refine va_newaK hx hb (atype := .int) (hts _ t_ai) (g := F0 m pc ls (.int n :: st)) rfl hd rfl hn hN hbt hcs.1 hcs.2 rfl (fun H1 cA e1 z1 o1 hAr hNm => ?_)
  have h2 : s.vm.findClass ("[" ++ (FieldType.int).toString) = some (X.2 0) := (hK.1.1.2 0 _ rfl).2
  have hc : cA = X.2 0 := Option.some.inj (hNm.symm.trans h2)
  rw [hc] at e1
  have hk : ∀ (k : Nat) (x : Nat × va_E), ws[k]? = some x → H1[x.1]? = H[x.1]? := fun k x hx => o1 x.1 ((hP k x hx).lt)
  refine kk H.size p e s m args below meth c H1 locs ls C ((hP.kept hk).app (fun k x hx => ?_)) (hD.push hP rfl (Or.inr hS.1)) ⟨Nat.le_trans hS.1 (by omega), fun x h1 h2 => (o1 x (Nat.lt_of_lt_of_le h1 hS.1)).trans (hS.2.1 x h1 h2), hS.2.2⟩ hl
  have hz : k < 1 := (List.getElem?_eq_some_iff.mp hx).1
  rw [show k = 0 by omega] at hx
  cases hx
  show H1[H.size]? = some (vp_cell _ _)
  rw [vp_cell_i]
  exact e1
theorem gn_newc {n : Int32} (N : Nat) (hn : ¬ n < 0) (hN : n.toNatClampNeg = N) (hbt : N * 4 ≤ 536870912) (hcs : cells + 1 ≤ mc ∧ slots + N ≤ ms) (hd : decode cc pc = .ok (.newarray .char, 2)) (kk : ∀ q : Nat, GN l X k mc ms own cc nL ret ini post w0 (pc + 2) lv (.ref q :: st) (ws ++ [(q, .inl (X.2 1, N, .inl (fun _ => 0)))]) (cells + 1) (slots + N)) : GN l X k mc ms own cc nL ret ini post w0 pc lv (.int n :: st) ws cells slots := by
  intro p e s m args below meth c H locs ls C hP hD hS hl
  obtain ⟨hx, hb, hml, hown, hts, hr, hlk, hK, hin⟩ := id C
  refine va_newaK hx hb (atype := .char) (hts _ t_ac) (g := F0 m pc ls (.int n :: st)) rfl hd rfl hn hN (by show N * 2 ≤ _; omega) hcs.1 hcs.2 rfl (fun H1 cA e1 z1 o1 hAr hNm => ?_)
  have h2 : s.vm.findClass ("[" ++ (FieldType.char).toString) = some (X.2 1) := (hK.1.1.2 1 _ rfl).2
  have hc : cA = X.2 1 := Option.some.inj (hNm.symm.trans h2)
  rw [hc] at e1
  have hk : ∀ (k : Nat) (x : Nat × va_E), ws[k]? = some x → H1[x.1]? = H[x.1]? := fun k x hx => o1 x.1 ((hP k x hx).lt)
  refine kk H.size p e s m args below meth c H1 locs ls C ((hP.kept hk).app (fun k x hx => ?_)) (hD.push hP rfl (Or.inr hS.1)) ⟨Nat.le_trans hS.1 (by omega), fun x h1 h2 => (o1 x (Nat.lt_of_lt_of_le h1 hS.1)).trans (hS.2.1 x h1 h2), hS.2.2⟩ hl
  have hz : k < 1 := (List.getElem?_eq_some_iff.mp hx).1
  rw [show k = 0 by omega] at hx
  cases hx
  show H1[H.size]? = some (vp_cell _ _)
  rw [vp_cell_i]
  exact e1
theorem gn_newq {idx : Nat} {n : Int32} (N : Nat) (hcl : Cond.classLink own idx RX1 ∈ TG) (hn : ¬ n < 0) (hN : n.toNatClampNeg = N) (hbt : N * 4 ≤ 536870912) (hcs : cells + 1 ≤ mc ∧ slots + N ≤ ms) (hd : decode cc pc = .ok (.anewarray idx, 3)) (kk : ∀ q : Nat, GN l X k mc ms own cc nL ret ini post w0 (pc + 3) lv (.ref q :: st) (ws ++ [(q, .inl (X.2 2, N, .inr (.inr (.inr (.inr (fun _ => none))))))]) (cells + 1) (slots + N)) : GN l X k mc ms own cc nL ret ini post w0 pc lv (.int n :: st) ws cells slots := by
  intro p e s m args below meth c H locs ls C hP hD hS hl
  obtain ⟨hx, hb, hml, hown, hts, hr, hlk, hK, hin⟩ := id C
  refine va_newq hx hb hown (hts _ hcl) hK.2 hK.1.1 hP hD hS (fun q h => Or.inr h) hn hN hbt hcs.1 hcs.2 hd (fun q cA H1 hK1 hP1 hD1 hS1 => ?_)
  obtain ⟨_, _, -, -, -, h4⟩ := (hK1.2 3 (cA, .object RX1) rfl).2
  obtain ⟨_, _, -, -, -, h5⟩ := (hK.1.1.2 2 (X.2 2, .object RX1) rfl).2
  have hc : cA = X.2 2 := Option.some.inj (h4.symm.trans h5)
  rw [hc] at hP1 hD1
  exact kk q p e s m args below meth c H1 locs ls C hP1 hD1 hS1 hl
theorem gn_iast (q0 : Nat) {a n : Nat} {f : Nat → Int32} {i x : Int32} (ha : ws[q0]? = some (a, .inl (X.2 0, n, .inl f))) (hvi : vp_in i n) (hd : decode cc pc = .ok (.iastore, 1)) (kk : GN l X k mc ms own cc nL ret ini post w0 (pc + 1) lv st (ws.set q0 (a, .inl (X.2 0, n, .inl (upd f i.toNatClampNeg x)))) cells slots) : GN l X k mc ms own cc nL ret ini post w0 pc lv (.int x :: .int i :: .ref a :: st) ws cells slots := by
  intro p e s m args below meth c H locs ls C hP hD hS hl
  obtain ⟨hx, hb, hml, hown, hts, hr, hlk, hK, hin⟩ := id C
  exact va_iast hx hb hK.1.1 hP hD hS q0 0 ha rfl hvi hd (fun H1 locs1 hP1 hD1 hS1 => kk p e s m args below meth c H1 locs1 ls C hP1 hD1 hS1 hl)
theorem gn_alen (q0 t0 : Nat) {a : Nat} {cA : ClassId} {x : vp_A} {ty : FieldType} {v : Int32} (ha : ws[q0]? = some (a, .inl (cA, x))) (ht : (tysOf (fun _ => 0, X))[t0]? = some (cA, ty)) (hv : Int32.ofNat x.1 = v) (hd : decode cc pc = .ok (.arraylength, 1)) (kk : GN l X k mc ms own cc nL ret ini post w0 (pc + 1) lv (.int v :: st) ws cells slots) : GN l X k mc ms own cc nL ret ini post w0 pc lv (.ref a :: st) ws cells slots := by
  intro p e s m args below meth c H locs ls C hP hD hS hl
  obtain ⟨hx, hb, hml, hown, hts, hr, hlk, hK, hin⟩ := id C
  exact va_alen hx hb hK.1.1 hP q0 t0 ha ht hv hd (kk p e s m args below meth c H locs ls C hP hD hS hl)
theorem gn_astq (q0 qk : Nat) {a n v : Nat} {f : Nat → Option Nat} {vs : List Value} {i : Int32} (ha : ws[q0]? = some (a, .inl (X.2 2, n, .inr (.inr (.inr (.inr f)))))) (hv : ws[qk]? = some (v, .inr (1, vs))) (hvi : vp_in i n) (hd : decode cc pc = .ok (.aastore, 1)) (kk : GN l X k mc ms own cc nL ret ini post w0 (pc + 1) lv st (ws.set q0 (a, .inl (X.2 2, n, .inr (.inr (.inr (.inr (va_up f i.toNatClampNeg (some v)))))))) cells slots) : GN l X k mc ms own cc nL ret ini post w0 pc lv (.ref v :: .int i :: .ref a :: st) ws cells slots := by
  intro p e s m args below meth c H locs ls C hP hD hS hl
  obtain ⟨hx, hb, hml, hown, hts, hr, hlk, hK, hin⟩ := id C
  exact va_astq hx hb hK.1.1 hP hD hS q0 2 qk 1 (r := (RX1, TX1, 9)) ha rfl hv rfl hvi hd (fun H1 locs1 hP1 hD1 hS1 => kk p e s m args below meth c H1 locs1 ls C hP1 hD1 hS1 hl)
theorem gn_obj {idx a : Nat} (hl0 : Cond.methodLink own idx objectInit ∈ TG) (hk : 1 ≤ k) (hst : (st.map fun v => v.category).sum + 12 ≤ 32 * k) (hd : decode cc pc = .ok (.invokespecial idx, 3)) (kk : GN l X k mc ms own cc nL ret ini post w0 (pc + 3) lv st ws cells slots) : GN l X k mc ms own cc nL ret ini post w0 pc lv (.ref a :: st) ws cells slots := by
  intro p e s m args below meth c H locs ls C hP hD hS hl
  obtain ⟨hx, hb, hml, hown, hts, hr, hlk, hK, hin⟩ := id C
  refine W.objInit hx hb hown (hts _ hl0) (hts _ t_oi.1) (hts _ t_oi.2) (g := F0 m pc ls (.ref a :: st)) rfl (by rw [hml]; exact hl.1) rfl hd hk (by show 2 * 0 + _ + 12 ≤ 32 * k; omega) ?_
  exact W.eq (g2 := F0 m (pc + 3) ls st) rfl (kk p e s m args below meth c H locs ls C hP hD hS hl)
end NROWS
section NRET
variable {l : Launch} {X : XV} {k mc ms : Nat} {own : String} {cc : ByteArray} {nL : Nat} {ini : Bool} {post : Option Int32 → va_W → Prop} {w0 : va_W} {pc : Nat} {lv : List (Nat × Value)} {ws : va_W}
theorem gn_vret (hd : decode cc pc = .ok (.return_, 1)) (hp : post none ws) : GN l X k mc ms own cc nL none ini post w0 pc lv [] ws mc ms := by
  intro p e s m args below meth c H locs ls C hP hD hS hl
  exact W.vret C.1 C.2.1 C.2.2.2.2.2.1 (fun t ht hW => ⟨⟨ws, rfl, hp, by rw [ht]; exact hP, hD⟩, hS.F ht⟩) hS.2.2 hd C.2.2.2.2.2.2.1
theorem gn_iret {v : Int32} (hd : decode cc pc = .ok (.ireturn, 1)) (hp : post (some v) ws) : GN l X k mc ms own cc nL (some .int) ini post w0 pc lv [.int v] ws mc ms := by
  intro p e s m args below meth c H locs ls C hP hD hS hl
  exact W.iret C.1 C.2.1 C.2.2.2.2.2.1 (fun t ht hW => ⟨⟨v, ws, rfl, hp, by rw [ht]; exact hP, hD⟩, hS.F ht⟩) hS.2.2 hd C.2.2.2.2.2.2.1
theorem gn_zret {v : Int32} (hd : decode cc pc = .ok (.ireturn, 1)) (hz : v = 0 ∨ v = 1) (hp : post (some v) ws) : GN l X k mc ms own cc nL (some .boolean) ini post w0 pc lv [.int v] ws mc ms := by
  intro p e s m args below meth c H locs ls C hP hD hS hl
  exact W.zret C.1 C.2.1 C.2.2.2.2.2.1 (by rcases hz with q | q <;> subst q <;> rfl) (fun t ht hW => ⟨⟨v, ws, rfl, hp, by rw [ht]; exact hP, hD⟩, hS.F ht⟩) hS.2.2 hd C.2.2.2.2.2.2.1
end NRET
theorem nw_r {D : va_G} {cl : List vw_C} {wr wc : va_W} {H : Heap} (h : va_P D cl (wr ++ wc) H) : va_P D cl wc H := fun k q hk => h (wr.length + k) q (by rw [List.getElem?_append_right (Nat.le_add_right _ _), Nat.add_sub_cancel_left]; exact hk)
theorem nw_l {D : va_G} {cl : List vw_C} {wr wc : va_W} {H : Heap} (h : va_P D cl (wr ++ wc) H) : va_P D cl wr H := fun k q hk => h k q (by rw [List.getElem?_append_left (List.getElem?_eq_some_iff.mp hk).1]; exact hk)
theorem nx_r {wr wc : va_W} {k : Nat} {q : Nat × va_E} (hk : wc[k]? = some q) : (wr ++ wc)[wr.length + k]? = some q := by rw [List.getElem?_append_right (Nat.le_add_right _ _), Nat.add_sub_cancel_left]; exact hk
theorem nx_l {wr wc : va_W} {k : Nat} {q : Nat × va_E} (hk : wr[k]? = some q) : (wr ++ wc)[k]? = some q := by rw [List.getElem?_append_left (List.getElem?_eq_some_iff.mp hk).1]; exact hk
theorem nd_r {A : Nat → Prop} {wr wc : va_W} (h : va_D A (wr ++ wc)) : va_D A wc := ⟨fun i j p q hi hj e => by have := h.1 _ _ p q (nx_r hi) (nx_r hj) e; omega, fun k q hk => h.2 _ q (nx_r hk)⟩
theorem nd_l {A : Nat → Prop} {wr wc : va_W} (h : va_D A (wr ++ wc)) : va_D A wr := ⟨fun i j p q hi hj e => h.1 _ _ p q (nx_l hi) (nx_l hj) e, fun k q hk => h.2 _ q (nx_l hk)⟩
theorem n_free {A0 : Nat → Prop} {wr wc : va_W} {H : Heap} (hD : va_D A0 (wr ++ wc)) (hA : ∀ q, H.size ≤ q → A0 q) : ∀ q, va_A wc H.size q → A0 q := fun q h => by
  rcases h with ⟨k, e, h⟩ | h
  · exact hD.2 _ (q, e) (nx_r h)
  · exact hA q h
theorem n_join {A0 : Nat → Prop} {D : va_G} {cl : List vw_C} {wr wc u : va_W} {H H1 : Heap} (hP : va_P D cl (wr ++ wc) H) (hD : va_D A0 (wr ++ wc)) (hk : ∀ q : Nat, q < H.size → ¬ va_A wc H.size q → H1[q]? = H[q]?) (hF : ∀ q, va_A wc H.size q → A0 q) (hP1 : va_P D cl u H1) (hD1 : va_D (va_A wc H.size) u) : va_P D cl (wr ++ u) H1 ∧ va_D A0 (wr ++ u) := by
  have apart : ∀ (i : Nat) (q : Nat × va_E), wr[i]? = some q → q.1 < H.size ∧ ¬ va_A wc H.size q.1 := by
    intro i q hq
    have hl := (hP i q (nx_l hq)).lt
    have hil := (List.getElem?_eq_some_iff.mp hq).1
    refine ⟨hl, fun h => ?_⟩
    rcases h with ⟨k2, e, h⟩ | h
    · have := hD.1 i (wr.length + k2) q (q.1, e) (nx_l hq) (nx_r h) rfl
      omega
    · omega
  refine ⟨((nw_l hP).kept (fun k q hq => hk q.1 (apart k q hq).1 (apart k q hq).2)).app hP1, va_D.app (nd_l hD) (hD1.weaken (fun k q _ h => hF q.1 h)) (fun i j x y hx hy hxy => (apart i x hx).2 (by rw [hxy]; exact hD1.2 j y hy))⟩
theorem n_blind {X : XV} {as : List Value} {w0 : va_W} {sz : Nat} : FrameBlind (va_Pc as (fun U => U.heap.size = sz ∧ va_P X.1 vwCl w0 U.heap ∧ va_D (fun _ => True) w0 ∧ KN X U)) :=
  fun a U g mk q => ⟨q.1, q.2.1, q.2.2.1, q.2.2.2.1, ⟨va_K.moved (u := U) (U := U.calling g mk a) (Vm.Alike.refl U.vm) q.2.2.2.2.1.1, nest_same (u := U) (U := U.calling g mk a) rfl q.2.2.2.2.1.2⟩, va_AO.moved (u := U) (U := U.calling g mk a) (Vm.Alike.refl U.vm) q.2.2.2.2.2⟩
theorem n_pre {X : XV} {as : List Value} {w0 : va_W} {s : State} {H : Heap} {A : Nat → Prop} (hP : va_P X.1 vwCl w0 H) (hD : va_D A w0) (hK : KN X s) : ∀ U : State, U.heap = H → s.WarmedH U.vm → va_Pc as (fun U => U.heap.size = H.size ∧ va_P X.1 vwCl w0 U.heap ∧ va_D (fun _ => True) w0 ∧ KN X U) as.toArray U :=
  fun U hU hW => ⟨rfl, by rw [hU], by rw [hU]; exact hP, hD.weaken (fun _ _ _ _ => trivial), hK.moved hW⟩
section NCALL
variable {l : Launch} {X : XV} {k mc ms : Nat} {own : String} {cc : ByteArray} {nL : Nat} {ret : Option FieldType} {ini : Bool} {post : Option Int32 → va_W → Prop} {w0 : va_W} {pc : Nat} {lv : List (Nat × Value)} {st : List Value} {ws : va_W} {cells slots : Nat}
theorem gn_callI {idx k' mc' ms' maxL n : Nat} {y : MethodName} {bytes : ByteArray} {post' : Option Int32 → va_W → Prop} (As : List Value) (h : Nat) (rest : List Value) (wr wc : va_W)
    (hl0 : ILink own idx y) (hm : MI y bytes maxL none n) (hy : y.name = "<init>") (hC : NCon l X k' mc' ms' y bytes maxL none (.ref h :: As) wc post') (hn : As.length = n) (hR : k' + 1 ≤ k ∧ 8 + (maxL + 11) + 32 * k' ≤ 32 * k) (hcat : (rest.map fun v => v.category).sum ≤ 8) (hcs : cells + mc' ≤ mc ∧ slots + ms' ≤ ms)
    (hws : ws = wr ++ wc) (hs : st = As.reverse ++ .ref h :: rest) (hd : decode cc pc = .ok (.invokespecial idx, 3))
    (kk : ∀ u : va_W, post' none u → GN l X k mc ms own cc nL ret ini post w0 (pc + 3) lv rest (wr ++ u) (cells + mc') (slots + ms')) : GN l X k mc ms own cc nL ret ini post w0 pc lv st ws cells slots := by
  intro p e s m args below meth c H locs ls C hP hD hS hl
  obtain ⟨hx, hb, hml, hown, hts, hr, hlk, hK, hin⟩ := id C
  subst hws
  subst hs
  have hcw := cwI (own := own) (index := idx) (y := y) (R := RN k mc ms) (args := args) (s := s) (bytes := bytes) (maxL := maxL) (rm := RN k' mc' ms') (mc := mc') (ms := ms') (ws := .code y bytes maxL none :: TG) (ws' := TG) (Ts := TG) n hts (good_TG (fun w hw => by
      rcases List.mem_cons.mp hw with h | h
      · rw [h]; exact hm.1
      · exact h)) rfl rfl rfl (hts _ hl0.2.2) (hts _ hl0.1) (hts _ hl0.2.1) hy hm.2 hR
  have hF := n_free hD (H := H) (fun q h => Or.inr (Nat.le_trans hS.1 h))
  refine va_callv (va_runI (b := h) (As := As) (rest := rest) ⟨hx, hb, hml, hown, hts⟩ (hC H.size) hcw ⟨n_blind, n_pre (nw_r hP) (nd_r hD) hK⟩ rfl hn hl.1 rfl (lv_room hcat) hd hcs) hS (fun q _ h => hF q h) hF (fun u t H1 locs1 ht hvm hw hB hz hk hS1 => ?_)
  obtain ⟨hP1, hD1⟩ := n_join hP hD hk hF (by rw [← ht]; exact hB.1) hB.2
  exact kk u hw p e s m args below meth c H1 locs1 ls C hP1 hD1 hS1 hl
theorem gn_callV {idx k' mc' ms' maxL n : Nat} {y : MethodName} {bytes : ByteArray} {rt : Option FieldType} {post' : Option Int32 → va_W → Prop} (As : List Value) (h : Nat) (rest : List Value) (wr wc : va_W) (q0 ci : Nat) {r : vw_C} {fs : List Value}
    (hl0 : VLink own idx y) (hm : MI y bytes maxL rt n) (hC : NCon l X k' mc' ms' y bytes maxL rt (.ref h :: As) wc post') (he : wc[q0]? = some (h, .inr (ci, fs))) (hc : vwCl[ci]? = some r) (hcl : r.1 = y.cls) (hn : As.length = n) (hR : k' + 1 ≤ k ∧ 8 + (maxL + 11) + 32 * k' ≤ 32 * k) (hcat : (rest.map fun v => v.category).sum ≤ 8) (hcs : cells + mc' ≤ mc ∧ slots + ms' ≤ ms)
    (hws : ws = wr ++ wc) (hs : st = As.reverse ++ .ref h :: rest) (hd : decode cc pc = .ok (.invokevirtual idx, 3))
    (kk : ∀ (o : Option Int32) (u : va_W), (o.isSome = rt.isSome) → post' o u → GN l X k mc ms own cc nL ret ini post w0 (pc + 3) lv (o.toList.map Value.int ++ rest) (wr ++ u) (cells + mc') (slots + ms')) : GN l X k mc ms own cc nL ret ini post w0 pc lv st ws cells slots := by
  intro p e s m args below meth c H locs ls C hP hD hS hl
  obtain ⟨hx, hb, hml, hown, hts, hr, hlk, hK, hin⟩ := id C
  subst hws
  subst hs
  have hcw : CallW (RN k mc ms) s args own y.cls idx y bytes maxL rt (.code y bytes maxL rt :: TG) (RN k' mc' ms') mc' ms' n :=
    cwV n hts (good_TG (fun w hw => by
      rcases List.mem_append.mp hw with h | h
      · simp only [List.mem_cons, List.not_mem_nil, or_false] at h
        rcases h with h | h | h | h
        · rw [h]; exact hl0.1
        · rw [h]; exact hl0.2.1
        · rw [h]; exact hl0.2.2.1
        · rw [h]; exact hl0.2.2.2
      · rcases List.mem_cons.mp h with h | h
        · rw [h]; exact hm.1
        · exact h)) rfl rfl rfl ⟨rfl, hm.2⟩ hR
  have hrec := va_recv hK.1.1 (nw_r hP) hc he
  rw [hcl] at hrec
  have hF := n_free hD (H := H) (fun q h => Or.inr (Nat.le_trans hS.1 h))
  have hrun := va_runV (locs := locs) (cells := cells) (slots := slots) (p := p) (l := l) (e := e) (below := below) (meth := meth) (b := h) (As := As) (rest := rest) (g := F0 m pc ls (As.reverse ++ .ref h :: rest)) ⟨hx, hb, hml, hown, hts⟩ (hC H.size) hcw ⟨n_blind, hrec, n_pre (nw_r hP) (nd_r hD) hK⟩ rfl hn hl.1 rfl (lv_room (m := m) (pc := pc) (ls := ls) (rest := rest) hcat) hd hcs
  match rt, hrun, kk with
  | none, hrun, kk =>
    refine va_callv (a := (Value.ref h :: As).toArray) hrun hS (fun q _ h => hF q h) hF (fun u t H1 locs1 ht hvm hw hB hz hk hS1 => ?_)
    obtain ⟨hP1, hD1⟩ := n_join hP hD hk hF (by rw [← ht]; exact hB.1) hB.2
    exact kk none u rfl hw p e s m args below meth c H1 locs1 ls C hP1 hD1 hS1 hl
  | some ty, hrun, kk =>
    refine va_calli (a := (Value.ref h :: As).toArray) hrun hS (fun q _ h => hF q h) hF (fun r u t H1 locs1 ht hvm hw hB hz hk hS1 => ?_)
    obtain ⟨hP1, hD1⟩ := n_join hP hD hk hF (by rw [← ht]; exact hB.1) hB.2
    exact kk (some r) u rfl hw p e s m args below meth c H1 locs1 ls C hP1 hD1 hS1 hl
end NCALL
