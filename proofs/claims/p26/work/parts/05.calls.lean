/-! entry, returns, calls -/
def elc : List AV → List (Option AV)
  | [] => []
  | v :: r => cond (isL (some v)) (some v :: none :: elc r) (some v :: elc r)
def eloc (nL : Nat) (as : List AV) : List (Option AV) := elc as ++ List.replicate (nL - (elc as).length) none
theorem asl_none (E : EV) : ∀ (n k : Nat), asl E k (List.replicate n none) = []
  | 0, _ => rfl
  | n + 1, k => by rw [List.replicate_succ, asl, asl_none E n (k + 1)]
theorem elc_sub (E : EV) (n : Nat) : ∀ (as : List AV) (k : Nat), ∀ q ∈ asl E k (elc as ++ List.replicate n none), q ∈ lv_args k (as.map (cv E))
  | [], k => by
    intro q hq
    rw [elc, List.nil_append, asl_none] at hq
    exact absurd hq List.not_mem_nil
  | v :: r, k => by
    intro q hq
    rw [List.map_cons, lv_args]
    have hc := cv_cat E v
    cases hL : isL (some v) with
    | true =>
      rw [elc, hL] at hq
      rw [hL] at hc
      rw [if_pos (by simpa using hc)]
      simp only [cond_true, List.cons_append, asl] at hq
      rcases List.mem_cons.mp hq with h | h
      · rw [h]; exact List.mem_cons_self
      · exact List.mem_cons_of_mem _ (elc_sub E n r (k + 1 + 1) q h)
    | false =>
      rw [elc, hL] at hq
      rw [hL] at hc
      rw [if_neg (by simpa using hc)]
      simp only [cond_false, List.cons_append, asl] at hq
      rcases List.mem_cons.mp hq with h | h
      · rw [h]; exact List.mem_cons_self
      · exact List.mem_cons_of_mem _ (elc_sub E n r (k + 1) q h)
theorem lg_len (E : EV) : ∀ (as : List AV), (lg_sl (as.map (cv E))).length = (elc as).length
  | [] => rfl
  | v :: r => by
    have hc := cv_cat E v
    have ih := lg_len E r
    unfold lg_sl at ih ⊢
    rw [List.map_cons, List.flatMap_cons, List.length_append, ih, elc]
    cases hL : isL (some v) with
    | true =>
      rw [hL] at hc
      rw [if_pos (by simpa using hc)]
      simp only [cond_true, List.length_cons, List.length_nil]
      omega
    | false =>
      rw [hL] at hc
      rw [if_neg (by simpa using hc)]
      simp only [cond_false, List.length_cons, List.length_nil]
      omega
theorem elc_ok : ∀ {as : List AV}, (∀ v ∈ as, okV v) → ∀ v, some v ∈ elc as → okV v
  | [], _, v, hv => absurd hv List.not_mem_nil
  | a :: r, h, v, hv => by
    rw [elc] at hv
    cases hL : isL (some a) with
    | true =>
      rw [hL] at hv
      rcases List.mem_cons.mp hv with q | q
      · rw [Option.some.inj q]; exact ok_hd h
      · rcases List.mem_cons.mp q with z | z
        · cases z
        · exact elc_ok (ok_tl h) v z
    | false =>
      rw [hL] at hv
      rcases List.mem_cons.mp hv with q | q
      · rw [Option.some.inj q]; exact ok_hd h
      · exact elc_ok (ok_tl h) v q
-- a method's contract
def Con (l : Launch) (k : Nat) (y : MethodName) (cc : ByteArray) (nL : Nat) (ret : Option FieldType) (as : List AV) (σ : Sg) (post : Option AV → Sg → Prop) : Prop :=
  ∀ (E : EV), AdOK E → POK σ → (∀ v ∈ as, okV v) → ∀ sz : Nat, Met l y (.code y cc nL ret :: TG) (Rm k) (va_Pc (as.map (cv E)) (fun U => U.heap.size = sz ∧ va_P E.2.1 vwCl (wsOf E σ) U.heap ∧ KE E U)) (QK ret post E (AE E sz)) 0 0 (AE E sz)
section CALLS
variable {l : Launch} {R : Room} {own : String} {cc : ByteArray} {nL : Nat} {ret : Option FieldType} {post : Option AV → Sg → Prop} {pc : Nat} {loc : List (Option AV)} {st : List AV} {σ : Sg}
theorem con_of {k : Nat} {y : MethodName} {as : List AV} (hy : plainName y.cls = true) (hn : (elc as).length ≤ nL) (b : POK σ → (∀ v ∈ as, okV v) → G l (Rm k) y.cls cc nL ret post 0 (eloc nL as) [] σ) : Con l k y cc nL ret as σ post := by
  intro E hE hσ has sz
  refine Met.ofW (cc := cc) (maxL := nL) (ret := ret) hy rfl ?_
  intro p e s m args below meth c s₁ B hml hv
  obtain ⟨rfl, hsz, hP, hK⟩ := hv
  subst hsz
  have hts := atoms_spec (ws := .code y cc nL ret :: TG) B.pre
  have hl := lv_entry (as.map (cv E)) (n := nL) (by rw [lg_len]; exact hn)
  rw [lg_entry_eq]
  generalize (lg_sl (as.map (cv E)) ++ List.replicate (nL - (lg_sl (as.map (cv E))).length) Slot.unset).toArray = ls at hl ⊢
  refine b hσ has E p e s m _ below meth c s.heap [] ls ⟨B.exec, B.bytes, hml, findClass_of_methodNamed B.named, fun w hw => hts w (List.mem_cons_of_mem _ hw), B.returns, B.notSynchronized, hK, hE⟩ hσ (fun v hv => absurd hv List.not_mem_nil) ?_ ?_ ?_ hP va_S.rf
  · intro v hv
    rcases List.mem_append.mp hv with h | h
    · exact elc_ok has v h
    · exact absurd (List.eq_of_mem_replicate h) (by simp)
  · rw [eloc, List.length_append, List.length_replicate]; omega
  · exact ⟨hl.1, hl.2.1, fun q hq => hl.2.2 q (elc_sub E _ as 0 q hq)⟩
theorem con_mono {k : Nat} {y : MethodName} {as : List AV} {post' : Option AV → Sg → Prop} (h : Con l k y cc nL ret as σ post) (hp : ∀ o σ', post o σ' → post' o σ') : Con l k y cc nL ret as σ post' := by
  intro E hE hσ has sz p e ha hc hk s m args below hf hw hpre ht
  obtain ⟨n, o, h1, h2, h3, hQ, hF⟩ := h E hE hσ has sz p e ha hc hk s m args below hf hw hpre ht
  refine ⟨n, o, h1, h2, h3, ?_, hF⟩
  clear h1 h2 h3 hF h
  revert hQ
  match ret with
  | none => exact fun ⟨⟨u, g1, g2, g3⟩, g4⟩ => ⟨⟨u, g1, hp _ _ g2, g3⟩, g4⟩
  | some (.object _) => exact fun ⟨⟨r, u, g1, ⟨oo, g5, g6, g2⟩, g3⟩, g4⟩ => ⟨⟨r, u, g1, ⟨oo, g5, g6, hp _ _ g2⟩, g3⟩, g4⟩
  | some .boolean => exact fun ⟨⟨r, u, g1, g2, g3⟩, g4⟩ => ⟨⟨r, u, g1, hp _ _ g2, g3⟩, g4⟩
  | some .int => exact fun ⟨⟨r, u, g1, g2, g3⟩, g4⟩ => ⟨⟨r, u, g1, hp _ _ g2, g3⟩, g4⟩
  | some .byte => exact fun ⟨⟨r, u, g1, g2, g3⟩, g4⟩ => ⟨⟨r, u, g1, hp _ _ g2, g3⟩, g4⟩
  | some .char => exact fun ⟨⟨r, u, g1, g2, g3⟩, g4⟩ => ⟨⟨r, u, g1, hp _ _ g2, g3⟩, g4⟩
  | some .short => exact fun ⟨⟨r, u, g1, g2, g3⟩, g4⟩ => ⟨⟨r, u, g1, hp _ _ g2, g3⟩, g4⟩
  | some .long => exact fun ⟨⟨r, u, g1, g2, g3⟩, g4⟩ => ⟨⟨r, u, g1, hp _ _ g2, g3⟩, g4⟩
  | some .float => exact fun ⟨⟨r, u, g1, g2, g3⟩, g4⟩ => ⟨⟨r, u, g1, hp _ _ g2, g3⟩, g4⟩
  | some .double => exact fun ⟨⟨r, u, g1, g2, g3⟩, g4⟩ => ⟨⟨r, u, g1, hp _ _ g2, g3⟩, g4⟩
  | some (.array _) => exact fun ⟨⟨r, u, g1, g2, g3⟩, g4⟩ => ⟨⟨r, u, g1, hp _ _ g2, g3⟩, g4⟩
-- returns
theorem g_iret {v : Int32} (hd : decode cc pc = .ok (.ireturn, 1)) (hp : post (some (vI v)) σ) : G l R own cc nL (some .int) post pc loc [vI v] σ := by
  intro E p e s m args below meth c H locs ls C hσ hst hloc hlen hlv hP hS
  exact W.iret C.1 C.2.1 C.2.2.2.2.2.1 (fun t ht hW => ⟨⟨v, σ, rfl, hp, hσ, by rw [ht]; exact hP⟩, hS.F ht⟩) hS.2.2 hd C.2.2.2.2.2.2.1
theorem g_zret {v : Int32} (hd : decode cc pc = .ok (.ireturn, 1)) (hz : v = 0 ∨ v = 1) (hp : post (some (vI v)) σ) : G l R own cc nL (some .boolean) post pc loc [vI v] σ := by
  intro E p e s m args below meth c H locs ls C hσ hst hloc hlen hlv hP hS
  exact W.zret C.1 C.2.1 C.2.2.2.2.2.1 (by rcases hz with q | q <;> subst q <;> rfl) (fun t ht hW => ⟨⟨v, σ, rfl, hp, hσ, by rw [ht]; exact hP⟩, hS.F ht⟩) hS.2.2 hd C.2.2.2.2.2.2.1
theorem g_vret (hd : decode cc pc = .ok (.return_, 1)) (hp : post none σ) : G l R own cc nL none post pc loc [] σ := by
  intro E p e s m args below meth c H locs ls C hσ hst hloc hlen hlv hP hS
  exact W.vret C.1 C.2.1 C.2.2.2.2.2.1 (fun t ht hW => ⟨⟨σ, rfl, hp, hσ, by rw [ht]; exact hP⟩, hS.F ht⟩) hS.2.2 hd C.2.2.2.2.2.2.1
theorem g_aretN {n : String} (hd : decode cc pc = .ok (.areturn, 1)) (hp : post (some vN) σ) : G l R own cc nL (some (.object n)) post pc loc [vN] σ := by
  intro E p e s m args below meth c H locs ls C hσ hst hloc hlen hlv hP hS
  exact W.aret C.1 C.2.1 C.2.2.2.2.2.1 (Or.inl ⟨_, rfl⟩) (Or.inl rfl) (fun t ht hW => ⟨⟨none, σ, rfl, ⟨none, rfl, trivial, hp⟩, hσ, by rw [ht]; exact hP⟩, hS.F ht⟩) hS.2.2 hd C.2.2.2.2.2.2.1
theorem g_aretR {n : String} {q : Lo} (hd : decode cc pc = .ok (.areturn, 1)) (hp : post (some (vR q)) σ) : G l R own cc nL (some (.object n)) post pc loc [vR q] σ := by
  intro E p e s m args below meth c H locs ls C hσ hst hloc hlen hlv hP hS
  exact W.aret C.1 C.2.1 C.2.2.2.2.2.1 (Or.inl ⟨_, rfl⟩) (Or.inr ⟨_, rfl⟩) (fun t ht hW => ⟨⟨some (E.1 q), σ, rfl, ⟨some q, rfl, ok_hd hst, hp⟩, hσ, by rw [ht]; exact hP⟩, hS.F ht⟩) hS.2.2 hd C.2.2.2.2.2.2.1
-- what a callee asks of the tables
def ArOK (y : MethodName) (n : Nat) : Prop := y.cls ≠ "java/lang/invoke/MethodHandle" ∧ y.cls ≠ "java/lang/invoke/VarHandle" ∧ (parseMethodDescriptor y.desc).map (fun d => d.parameters.length) = some n
def MI (y : MethodName) (bytes : ByteArray) (maxL : Nat) (ret : Option FieldType) (n : Nat) : Prop := Cond.code y bytes maxL ret ∈ TG ∧ ArOK y n
theorem good_TG {ws : List Cond} (h : ∀ w ∈ ws, w ∈ TG) : GoodIn TG ws := fun w hw => ⟨h w hw, good_of_word (TG_good w (h w hw))⟩
def isN : Cond → Bool
  | .fieldLinkNest .. => true
  | .methodLinkNest .. => true
  | _ => false
theorem nest_isN : ∀ w ∈ nestWs, isN w = true := by
  intro w hw
  exact List.all_eq_true.mp (by decide +kernel : nestWs.all isN = true) w hw
theorem nest_warm {s U : State} (hW : s.WarmedH U.vm) (h : ∀ w ∈ nestWs, va_Nw w s) : ∀ w ∈ nestWs, va_Nw w U := by
  intro w hw
  have h1 := h w hw
  have h2 := nest_isN w hw
  cases w <;> first | (exact va_Nw.warmF hW h1) | (exact va_Nw.warmM hW h1) | (exact absurd h2 (by simp [isN]))
theorem nest_same {u U : State} (hvm : u.vm = U.vm) (h : ∀ w ∈ nestWs, va_Nw w u) : ∀ w ∈ nestWs, va_Nw w U := by
  intro w hw
  have h1 := h w hw
  have h2 := nest_isN w hw
  cases w <;> first | (exact Bool.noConfusion h2) | (exact va_Nw.same rfl hvm h1)
theorem pre_blind {E : EV} {as : List Value} {σ : Sg} {sz : Nat} : FrameBlind (va_Pc as (fun U => U.heap.size = sz ∧ va_P E.2.1 vwCl (wsOf E σ) U.heap ∧ KE E U)) :=
  fun a U g mk q => ⟨q.1, q.2.1, q.2.2.1, va_K.moved (u := U) (U := U.calling g mk a) (Vm.Alike.refl U.vm) q.2.2.2.1, nest_same (u := U) (U := U.calling g mk a) rfl q.2.2.2.2⟩
theorem pre_at {E : EV} {as : List Value} {σ : Sg} {s : State} {H : Heap} (hP : va_P E.2.1 vwCl (wsOf E σ) H) (hK : KE E s) : ∀ U : State, U.heap = H → s.WarmedH U.vm → va_Pc as (fun U => U.heap.size = H.size ∧ va_P E.2.1 vwCl (wsOf E σ) U.heap ∧ KE E U) as.toArray U :=
  fun U hU hW => ⟨rfl, by rw [hU], by rw [hU]; exact hP, va_K.moved hW.alike hK.1, nest_warm hW hK.2⟩
theorem AE_in {E : EV} {H0 H : Heap} {locs : List Jvm.Loc} (hS : va_S (AE E H0.size) H0 H locs) : ∀ q, AE E H.size q → AE E H0.size q := fun q h => h.elim Or.inl (fun z => Or.inr (Nat.le_trans hS.1 z))
theorem callK {p : Program} {e : Env} {s : State} {m : MethodId} {args : Array Value} {below : List Frame} {meth : Method} {c : Code} {H : Heap} {locs : List Jvm.Loc} {Q : State → Prop} {ls : Array Slot} {rest st0 : List Value} {a : Array Value} {E : EV} {P : Option AV → Sg → Prop}
    (hr : va_Run p l e R s m args below meth c H locs 0 0 0 0 (F0 m pc ls st0) rest (QK ret P E (AE E H.size) a) (AE E H.size)) (hS : va_S (AE E s.heap.size) s.heap H locs)
    (kk : ∀ (o : Option AV) (σ' : Sg) (H1 : Heap) (locs1 : List Jvm.Loc), (∀ v, o = some v → okV v) → P o σ' → POK σ' → va_P E.2.1 vwCl (wsOf E σ') H1 → va_S (AE E s.heap.size) s.heap H1 locs1 → W p l e R s m args below meth c H1 locs1 0 0 Q (F0 m (pc + 3) ls ((o.toList).map (cv E) ++ rest))) : W p l e R s m args below meth c H locs 0 0 Q (F0 m pc ls st0) := by
  have I : ∀ (hr : va_Run p l e R s m args below meth c H locs 0 0 0 0 (F0 m pc ls st0) rest (va_Qi (fun (r : Int32) (σ : Sg) => P (some (vI r)) σ) (BQ E) (AE E H.size) a) (AE E H.size)), W p l e R s m args below meth c H locs 0 0 Q (F0 m pc ls st0) := fun hr =>
    va_calli (a := a) hr hS (fun q _ h => AE_in hS q h) (AE_in hS) (fun r u t H1 locs1 ht hvm hw hB hz hk hS1 => kk (some (vI r)) u H1 locs1 (fun v hv => by cases hv; trivial) hw hB.1 (by rw [← ht]; exact hB.2) hS1)
  match ret, hr with
  | none, hr => exact va_callv (a := a) hr hS (fun q _ h => AE_in hS q h) (AE_in hS) (fun u t H1 locs1 ht hvm hw hB hz hk hS1 => kk none u H1 locs1 (fun v hv => by cases hv) hw hB.1 (by rw [← ht]; exact hB.2) hS1)
  | some (.object _), hr => exact va_callq (a := a) hr hS (fun q _ h => AE_in hS q h) (AE_in hS) (fun r u t H1 locs1 ht hvm hw hB hz hk hS1 => by
      obtain ⟨oo, h1, h2, h3⟩ := hw
      have hfin := kk (some (.inr (.inr oo))) u H1 locs1 (fun v hv => by cases hv; exact h2) h3 hB.1 (by rw [← ht]; exact hB.2) hS1
      subst h1
      cases oo <;> exact hfin)
  | some .boolean, hr => exact I hr
  | some .int, hr => exact I hr
  | some .byte, hr => exact I hr
  | some .char, hr => exact I hr
  | some .short, hr => exact I hr
  | some .long, hr => exact I hr
  | some .float, hr => exact I hr
  | some .double, hr => exact I hr
  | some (.array _), hr => exact I hr
def aCat (v : AV) : Nat := cond (isL (some v)) 2 1
theorem cat_sum (E : EV) : ∀ (st : List AV), ((st.map (cv E)).map fun v => v.category).sum = (st.map aCat).sum
  | [] => rfl
  | v :: r => by
    have h : (cv E v).category = aCat v := by rcases v with x | x | o | q <;> rfl
    rw [List.map_cons, List.map_cons, List.map_cons, List.sum_cons, List.sum_cons, cat_sum E r, h]
theorem g_callV {k idx maxL n : Nat} {y : MethodName} {bytes : ByteArray} {rt : Option FieldType} {P : Option AV → Sg → Prop} (b : Lo) (As : List AV) (rest : List AV) {x : Nat × List FS} {r : vw_C}
    (hl : VLink own idx y) (hm : MI y bytes maxL rt n) (hC : Con l k y bytes maxL rt (vR b :: As) σ P) (hsh : shp b = .inl x) (hc : vwCl[x.1]? = some r) (hcl : r.1 = y.cls) (hn : As.length = n) (hR : k + 1 ≤ R.frames ∧ 8 + (maxL + 11) + 32 * k ≤ R.locals)
    (hs : st = As.reverse ++ vR b :: rest) (hcat : (rest.map aCat).sum ≤ 8) (hd : decode cc pc = .ok (.invokevirtual idx, 3))
    (kk : ∀ (o : Option AV) (σ' : Sg), P o σ' → G l R own cc nL ret post (pc + 3) loc (o.toList ++ rest) σ') : G l R own cc nL ret post pc loc st σ := by
  intro E p e s m args below meth c H locs ls C hσ hst hloc hlen hlv hP hS
  obtain ⟨hx, hb, hml, hown, hts, hr, hlk, hK, hE⟩ := id C
  subst hs
  have hbk : vR b ∈ As.reverse ++ vR b :: rest := List.mem_append_right _ List.mem_cons_self
  have hbo : b ∈ allLo := hst _ hbk
  have has : ∀ v ∈ vR b :: As, okV v := fun v hv => by
    rcases List.mem_cons.mp hv with q | q
    · rw [q]; exact hbo
    · exact hst v (List.mem_append_left _ (List.mem_reverse.mpr q))
  have hrs : ∀ v ∈ rest, okV v := fun v hv => hst v (List.mem_append_right _ (List.mem_cons_of_mem _ hv))
  obtain ⟨i0, hi0⟩ := List.getElem?_of_mem hbo
  have hg : (wsOf E σ)[i0]? = some (E.1 b, .inr (x.1, fvs E (σ.1 b) 0 x.2)) := by rw [ws_get hi0, entry_obj hsh]
  have hrec := va_recv hK.1 hP hc hg
  rw [hcl] at hrec
  have hM := hC E hE hσ has H.size
  have hcw : CallW R s args own y.cls idx y bytes maxL rt (.code y bytes maxL rt :: TG) (Rm k) 0 0 n :=
    cwV n hts (good_TG (fun w hw => by
      rcases List.mem_append.mp hw with h | h
      · simp only [List.mem_cons, List.not_mem_nil, or_false] at h
        rcases h with h | h | h | h
        · rw [h]; exact hl.1
        · rw [h]; exact hl.2.1
        · rw [h]; exact hl.2.2.1
        · rw [h]; exact hl.2.2.2
      · rcases List.mem_cons.mp h with h | h
        · rw [h]; exact hm.1
        · exact h)) rfl rfl rfl ⟨rfl, hm.2⟩ hR
  have hsk : (F0 m pc ls ((As.reverse ++ vR b :: rest).map (cv E))).stack = (As.map (cv E)).reverse ++ .ref (E.1 b) :: rest.map (cv E) := by
    show (As.reverse ++ vR b :: rest).map (cv E) = _
    rw [List.map_append, List.map_cons, List.map_reverse]
    rfl
  refine callK (va_runV (b := E.1 b) (As := As.map (cv E)) (rest := rest.map (cv E)) ⟨hx, hb, hml, hown, hts⟩ hM hcw ⟨pre_blind, hrec, pre_at hP hK⟩ rfl (by rw [List.length_map]; exact hn) hlv.1 hsk (lv_room (by rw [cat_sum]; exact hcat)) hd ⟨Nat.zero_le _, Nat.zero_le _⟩) hS (fun o σ' H1 locs1 hok hPo hσ' hP1 hS1 => ?_)
  rw [← List.map_append]
  refine kk o σ' hPo E p e s m args below meth c H1 locs1 ls C hσ' (fun v hv => ?_) hloc hlen hlv hP1 hS1
  rcases List.mem_append.mp hv with h | h
  · exact hok v (by simpa using h)
  · exact hrs v h
theorem g_callS {k idx maxL n : Nat} {y : MethodName} {bytes : ByteArray} {rt : Option FieldType} {P : Option AV → Sg → Prop} (As : List AV) (rest : List AV)
    (hl : SLink own idx y) (hm : MI y bytes maxL rt n) (hC : Con l k y bytes maxL rt As σ P) (hn : As.length = n) (hR : k + 1 ≤ R.frames ∧ 8 + (maxL + 11) + 32 * k ≤ R.locals)
    (hs : st = As.reverse ++ rest) (hcat : (rest.map aCat).sum ≤ 8) (hd : decode cc pc = .ok (.invokestatic idx, 3))
    (kk : ∀ (o : Option AV) (σ' : Sg), P o σ' → G l R own cc nL ret post (pc + 3) loc (o.toList ++ rest) σ') : G l R own cc nL ret post pc loc st σ := by
  intro E p e s m args below meth c H locs ls C hσ hst hloc hlen hlv hP hS
  obtain ⟨hx, hb, hml, hown, hts, hr, hlk, hK, hE⟩ := id C
  subst hs
  have has : ∀ v ∈ As, okV v := fun v hv => hst v (List.mem_append_left _ (List.mem_reverse.mpr hv))
  have hrs : ∀ v ∈ rest, okV v := fun v hv => hst v (List.mem_append_right _ hv)
  have hM := hC E hE hσ has H.size
  have hcw := va_cwS (own := own) (index := idx) (y := y) (R := R) (args := args) (s := s) (bytes := bytes) (maxL := maxL) (ret := rt) (rm := Rm k) (mc := 0) (ms := 0) (ws := .code y bytes maxL rt :: TG) (ws' := TG) (Ts := TG) n hts (good_TG (fun w hw => by
      rcases List.mem_append.mp hw with h | h
      · simp only [List.mem_cons, List.not_mem_nil, or_false] at h
        rcases h with h | h | h
        · rw [h]; exact hl.1
        · rw [h]; exact hl.2.1
        · rw [h]; exact hl.2.2
      · rcases List.mem_cons.mp h with h | h
        · rw [h]; exact hm.1
        · exact h)) rfl rfl rfl hm.2 hR
  have hsk : (F0 m pc ls ((As.reverse ++ rest).map (cv E))).stack = (As.map (cv E)).reverse ++ rest.map (cv E) := by
    show (As.reverse ++ rest).map (cv E) = _
    rw [List.map_append, List.map_reverse]
  refine callK (va_runS (As := As.map (cv E)) (rest := rest.map (cv E)) ⟨hx, hb, hml, hown, hts⟩ hM hcw ⟨pre_blind, pre_at hP hK⟩ rfl (by rw [List.length_map]; exact hn) hlv.1 hsk (lv_room (by rw [cat_sum]; exact hcat)) hd ⟨Nat.zero_le _, Nat.zero_le _⟩) hS (fun o σ' H1 locs1 hok hPo hσ' hP1 hS1 => ?_)
  rw [← List.map_append]
  refine kk o σ' hPo E p e s m args below meth c H1 locs1 ls C hσ' (fun v hv => ?_) hloc hlen hlv hP1 hS1
  rcases List.mem_append.mp hv with h | h
  · exact hok v (by simpa using h)
  · exact hrs v h
theorem g_callN {k idx maxL n : Nat} {y : MethodName} {bytes : ByteArray} {rt : Option FieldType} {P : Option AV → Sg → Prop} (As : List AV) (rest : List AV)
    (hw : Cond.methodLinkNest own idx y RX4 ∈ nestWs) (hl : NLink y) (hm : MI y bytes maxL rt n) (hC : Con l k y bytes maxL rt As σ P) (hn : As.length = n) (hR : k + 1 ≤ R.frames ∧ 8 + (maxL + 11) + 32 * k ≤ R.locals)
    (hs : st = As.reverse ++ rest) (hcat : (rest.map aCat).sum ≤ 8) (hd : decode cc pc = .ok (.invokestatic idx, 3))
    (kk : ∀ (o : Option AV) (σ' : Sg), P o σ' → G l R own cc nL ret post (pc + 3) loc (o.toList ++ rest) σ') : G l R own cc nL ret post pc loc st σ := by
  intro E p e s m args below meth c H locs ls C hσ hst hloc hlen hlv hP hS
  obtain ⟨hx, hb, hml, hown, hts, hr, hlk, hK, hE⟩ := id C
  subst hs
  have has : ∀ v ∈ As, okV v := fun v hv => hst v (List.mem_append_left _ (List.mem_reverse.mpr hv))
  have hrs : ∀ v ∈ rest, okV v := fun v hv => hst v (List.mem_append_right _ hv)
  have hM := hC E hE hσ has H.size
  have hcw := va_cnB (own := own) (host := RX4) (index := idx) (y := y) (R := R) (args := args) (s := s) (bytes := bytes) (maxL := maxL) (ret := rt) (rm := Rm k) (mc := 0) (ms := 0) (ws := .code y bytes maxL rt :: TG) (ws' := TG) (Ts := TG) n hts (good_TG (fun w hw => by
      rcases List.mem_cons.mp hw with h | h
      · rw [h]; exact hm.1
      · exact h)) rfl rfl rfl (hK.2 _ hw) (hts _ hl.2) hm.2 hR
  have hsk : (F0 m pc ls ((As.reverse ++ rest).map (cv E))).stack = (As.map (cv E)).reverse ++ rest.map (cv E) := by
    show (As.reverse ++ rest).map (cv E) = _
    rw [List.map_append, List.map_reverse]
  refine callK (va_runSN (As := As.map (cv E)) (rest := rest.map (cv E)) ⟨hx, hb, hml, hown, hts⟩ hM ⟨hcw, hts _ hl.1, trivial⟩ ⟨pre_blind, pre_at hP hK⟩ rfl (by rw [List.length_map]; exact hn) hlv.1 hsk (lv_room (by rw [cat_sum]; exact hcat)) hd ⟨Nat.zero_le _, Nat.zero_le _⟩) hS (fun o σ' H1 locs1 hok hPo hσ' hP1 hS1 => ?_)
  rw [← List.map_append]
  refine kk o σ' hPo E p e s m args below meth c H1 locs1 ls C hσ' (fun v hv => ?_) hloc hlen hlv hP1 hS1
  rcases List.mem_append.mp hv with h | h
  · exact hok v (by simpa using h)
  · exact hrs v h
end CALLS
theorem mi_X4_init : MI yX4_init cX4_init 1 none 0 := ⟨cd_X4_init, by unfold ArOK; decide +kernel⟩
theorem pn_X4_init : plainName yX4_init.cls = true := by decide +kernel
theorem mi_X1_init : MI yX1_init cX1_init 1 none 0 := ⟨cd_X1_init, by unfold ArOK; decide +kernel⟩
theorem pn_X1_init : plainName yX1_init.cls = true := by decide +kernel
theorem mi_X3_init : MI yX3_init cX3_init 3 none 2 := ⟨cd_X3_init, by unfold ArOK; decide +kernel⟩
theorem pn_X3_init : plainName yX3_init.cls = true := by decide +kernel
theorem mi_X3_append : MI yX3_append cX3_append 3 (some .int) 0 := ⟨cd_X3_append, by unfold ArOK; decide +kernel⟩
theorem pn_X3_append : plainName yX3_append.cls = true := by decide +kernel
theorem mi_X3_isFull : MI yX3_isFull cX3_isFull 1 (some .boolean) 0 := ⟨cd_X3_isFull, by unfold ArOK; decide +kernel⟩
theorem pn_X3_isFull : plainName yX3_isFull.cls = true := by decide +kernel
theorem mi_X3_write : MI yX3_write cX3_write 5 none 3 := ⟨cd_X3_write, by unfold ArOK; decide +kernel⟩
theorem pn_X3_write : plainName yX3_write.cls = true := by decide +kernel
theorem mi_X0_init : MI yX0_init cX0_init 2 none 0 := ⟨cd_X0_init, by unfold ArOK; decide +kernel⟩
theorem pn_X0_init : plainName yX0_init.cls = true := by decide +kernel
theorem mi_X2_init : MI yX2_init cX2_init 1 none 0 := ⟨cd_X2_init, by unfold ArOK; decide +kernel⟩
theorem pn_X2_init : plainName yX2_init.cls = true := by decide +kernel
theorem mi_X4_resident : MI yX4_resident cX4_resident 2 (some .int) 1 := ⟨cd_X4_resident, by unfold ArOK; decide +kernel⟩
theorem pn_X4_resident : plainName yX4_resident.cls = true := by decide +kernel
theorem mi_X4_isWeight : MI yX4_isWeight cX4_isWeight 1 (some .boolean) 1 := ⟨cd_X4_isWeight, by unfold ArOK; decide +kernel⟩
theorem pn_X4_isWeight : plainName yX4_isWeight.cls = true := by decide +kernel
theorem mi_X4_isIn : MI yX4_isIn cX4_isIn 3 (some .boolean) 3 := ⟨cd_X4_isIn, by unfold ArOK; decide +kernel⟩
theorem pn_X4_isIn : plainName yX4_isIn.cls = true := by decide +kernel
theorem mi_X0_keep : MI yX0_keep cX0_keep 3 none 1 := ⟨cd_X0_keep, by unfold ArOK; decide +kernel⟩
theorem pn_X0_keep : plainName yX0_keep.cls = true := by decide +kernel
theorem mi_X0_dropOldest : MI yX0_dropOldest cX0_dropOldest 3 none 0 := ⟨cd_X0_dropOldest, by unfold ArOK; decide +kernel⟩
theorem pn_X0_dropOldest : plainName yX0_dropOldest.cls = true := by decide +kernel
theorem mi_X0_stateAt : MI yX0_stateAt cX0_stateAt 2 (some (.object "CleaningRota$House")) 1 := ⟨cd_X0_stateAt, by unfold ArOK; decide +kernel⟩
theorem pn_X0_stateAt : plainName yX0_stateAt.cls = true := by decide +kernel
theorem mi_X1_copyFrom : MI yX1_copyFrom cX1_copyFrom 2 none 1 := ⟨cd_X1_copyFrom, by unfold ArOK; decide +kernel⟩
theorem pn_X1_copyFrom : plainName yX1_copyFrom.cls = true := by decide +kernel
theorem mi_X3_copyFrom : MI yX3_copyFrom cX3_copyFrom 2 none 1 := ⟨cd_X3_copyFrom, by unfold ArOK; decide +kernel⟩
theorem pn_X3_copyFrom : plainName yX3_copyFrom.cls = true := by decide +kernel
theorem mi_X1_addResident : MI yX1_addResident cX1_addResident 3 (some .int) 1 := ⟨cd_X1_addResident, by unfold ArOK; decide +kernel⟩
theorem pn_X1_addResident : plainName yX1_addResident.cls = true := by decide +kernel
theorem mi_X4_area : MI yX4_area cX4_area 4 (some .int) 3 := ⟨cd_X4_area, by unfold ArOK; decide +kernel⟩
theorem pn_X4_area : plainName yX4_area.cls = true := by decide +kernel
theorem mi_X1_addArea : MI yX1_addArea cX1_addArea 5 (some .int) 3 := ⟨cd_X1_addArea, by unfold ArOK; decide +kernel⟩
theorem pn_X1_addArea : plainName yX1_addArea.cls = true := by decide +kernel
theorem mi_X4_set : MI yX4_set cX4_set 3 (some .int) 2 := ⟨cd_X4_set, by unfold ArOK; decide +kernel⟩
theorem pn_X4_set : plainName yX4_set.cls = true := by decide +kernel
theorem mi_X4_isSettingValue : MI yX4_isSettingValue cX4_isSettingValue 2 (some .boolean) 2 := ⟨cd_X4_isSettingValue, by unfold ArOK; decide +kernel⟩
theorem pn_X4_isSettingValue : plainName yX4_isSettingValue.cls = true := by decide +kernel
theorem mi_X3_exchange : MI yX3_exchange cX3_exchange 5 (some .int) 3 := ⟨cd_X3_exchange, by unfold ArOK; decide +kernel⟩
theorem pn_X3_exchange : plainName yX3_exchange.cls = true := by decide +kernel
theorem mi_X3_cell : MI yX3_cell cX3_cell 4 (some .int) 2 := ⟨cd_X3_cell, by unfold ArOK; decide +kernel⟩
theorem pn_X3_cell : plainName yX3_cell.cls = true := by decide +kernel
theorem mi_L_cell : MI yL_cell cL_cell 2 (some .int) 2 := ⟨cd_L_cell, by unfold ArOK; decide +kernel⟩
theorem pn_L_cell : plainName yL_cell.cls = true := by decide +kernel
theorem mi_L_up : MI yL_up cL_up 2 (some .int) 2 := ⟨cd_L_up, by unfold ArOK; decide +kernel⟩
theorem pn_L_up : plainName yL_up.cls = true := by decide +kernel
theorem mi_L_act : MI yL_act cL_act 9 (some .boolean) 4 := ⟨cd_L_act, by unfold ArOK; decide +kernel⟩
theorem pn_L_act : plainName yL_act.cls = true := by decide +kernel
theorem mi_X4_count : MI yX4_count cX4_count 2 (some .int) 1 := ⟨cd_X4_count, by unfold ArOK; decide +kernel⟩
theorem pn_X4_count : plainName yX4_count.cls = true := by decide +kernel
theorem mi_X3_size : MI yX3_size cX3_size 1 (some .int) 0 := ⟨cd_X3_size, by unfold ArOK; decide +kernel⟩
theorem pn_X3_size : plainName yX3_size.cls = true := by decide +kernel
theorem mi_X1_countOpenTasks : MI yX1_countOpenTasks cX1_countOpenTasks 3 (some .int) 0 := ⟨cd_X1_countOpenTasks, by unfold ArOK; decide +kernel⟩
theorem pn_X1_countOpenTasks : plainName yX1_countOpenTasks.cls = true := by decide +kernel
theorem mi_X1_isOpen : MI yX1_isOpen cX1_isOpen 2 (some .boolean) 1 := ⟨cd_X1_isOpen, by unfold ArOK; decide +kernel⟩
theorem pn_X1_isOpen : plainName yX1_isOpen.cls = true := by decide +kernel
theorem mi_X3_has : MI yX3_has cX3_has 2 (some .boolean) 1 := ⟨cd_X3_has, by unfold ArOK; decide +kernel⟩
theorem pn_X3_has : plainName yX3_has.cls = true := by decide +kernel
theorem mi_X4_bit : MI yX4_bit cX4_bit 1 (some .int) 1 := ⟨cd_X4_bit, by unfold ArOK; decide +kernel⟩
theorem pn_X4_bit : plainName yX4_bit.cls = true := by decide +kernel
theorem mi_X1_spread : MI yX1_spread cX1_spread 1 (some .int) 0 := ⟨cd_X1_spread, by unfold ArOK; decide +kernel⟩
theorem pn_X1_spread : plainName yX1_spread.cls = true := by decide +kernel
theorem mi_X1_spreadOf : MI yX1_spreadOf cX1_spreadOf 11 (some .int) 4 := ⟨cd_X1_spreadOf, by unfold ArOK; decide +kernel⟩
theorem pn_X1_spreadOf : plainName yX1_spreadOf.cls = true := by decide +kernel
theorem mi_X1_loadOf : MI yX1_loadOf cX1_loadOf 2 (some .int) 1 := ⟨cd_X1_loadOf, by unfold ArOK; decide +kernel⟩
theorem pn_X1_loadOf : plainName yX1_loadOf.cls = true := by decide +kernel
theorem mi_X1_rateOf : MI yX1_rateOf cX1_rateOf 4 (some .int) 2 := ⟨cd_X1_rateOf, by unfold ArOK; decide +kernel⟩
theorem pn_X1_rateOf : plainName yX1_rateOf.cls = true := by decide +kernel
theorem mi_X1_plannedSpread : MI yX1_plannedSpread cX1_plannedSpread 1 (some .int) 0 := ⟨cd_X1_plannedSpread, by unfold ArOK; decide +kernel⟩
theorem pn_X1_plannedSpread : plainName yX1_plannedSpread.cls = true := by decide +kernel
theorem mi_L_plans : MI yL_plans cL_plans 17 (some .boolean) 1 := ⟨cd_L_plans, by unfold ArOK; decide +kernel⟩
theorem pn_L_plans : plainName yL_plans.cls = true := by decide +kernel
theorem mi_X4_plan : MI yX4_plan cX4_plan 1 (some .int) 0 := ⟨cd_X4_plan, by unfold ArOK; decide +kernel⟩
theorem pn_X4_plan : plainName yX4_plan.cls = true := by decide +kernel
theorem mi_X1_planWeek : MI yX1_planWeek cX1_planWeek 2 (some .int) 0 := ⟨cd_X1_planWeek, by unfold ArOK; decide +kernel⟩
theorem pn_X1_planWeek : plainName yX1_planWeek.cls = true := by decide +kernel
theorem mi_X1_leastLoaded : MI yX1_leastLoaded cX1_leastLoaded 5 (some .int) 1 := ⟨cd_X1_leastLoaded, by unfold ArOK; decide +kernel⟩
theorem pn_X1_leastLoaded : plainName yX1_leastLoaded.cls = true := by decide +kernel
theorem mi_X1_isAway : MI yX1_isAway cX1_isAway 2 (some .boolean) 1 := ⟨cd_X1_isAway, by unfold ArOK; decide +kernel⟩
theorem pn_X1_isAway : plainName yX1_isAway.cls = true := by decide +kernel
theorem mi_X1_goesAhead : MI yX1_goesAhead cX1_goesAhead 5 (some .boolean) 2 := ⟨cd_X1_goesAhead, by unfold ArOK; decide +kernel⟩
theorem pn_X1_goesAhead : plainName yX1_goesAhead.cls = true := by decide +kernel
theorem mi_X1_makeTasks : MI yX1_makeTasks cX1_makeTasks 6 none 0 := ⟨cd_X1_makeTasks, by unfold ArOK; decide +kernel⟩
theorem pn_X1_makeTasks : plainName yX1_makeTasks.cls = true := by decide +kernel
theorem mi_X1_areaOfNextTask : MI yX1_areaOfNextTask cX1_areaOfNextTask 6 (some .int) 1 := ⟨cd_X1_areaOfNextTask, by unfold ArOK; decide +kernel⟩
theorem pn_X1_areaOfNextTask : plainName yX1_areaOfNextTask.cls = true := by decide +kernel
theorem mi_X1_effortOfTask : MI yX1_effortOfTask cX1_effortOfTask 3 (some .int) 1 := ⟨cd_X1_effortOfTask, by unfold ArOK; decide +kernel⟩
theorem pn_X1_effortOfTask : plainName yX1_effortOfTask.cls = true := by decide +kernel
theorem mi_X1_needsDeepClean : MI yX1_needsDeepClean cX1_needsDeepClean 2 (some .boolean) 1 := ⟨cd_X1_needsDeepClean, by unfold ArOK; decide +kernel⟩
theorem pn_X1_needsDeepClean : plainName yX1_needsDeepClean.cls = true := by decide +kernel
theorem mi_X1_isDue : MI yX1_isDue cX1_isDue 3 (some .boolean) 1 := ⟨cd_X1_isDue, by unfold ArOK; decide +kernel⟩
theorem pn_X1_isDue : plainName yX1_isDue.cls = true := by decide +kernel
theorem mi_X1_addTask : MI yX1_addTask cX1_addTask 5 none 3 := ⟨cd_X1_addTask, by unfold ArOK; decide +kernel⟩
theorem pn_X1_addTask : plainName yX1_addTask.cls = true := by decide +kernel
theorem mi_X1_giveTasks : MI yX1_giveTasks cX1_giveTasks 3 none 0 := ⟨cd_X1_giveTasks, by unfold ArOK; decide +kernel⟩
theorem pn_X1_giveTasks : plainName yX1_giveTasks.cls = true := by decide +kernel
theorem mi_X1_hasTwinAhead : MI yX1_hasTwinAhead cX1_hasTwinAhead 2 (some .boolean) 1 := ⟨cd_X1_hasTwinAhead, by unfold ArOK; decide +kernel⟩
theorem pn_X1_hasTwinAhead : plainName yX1_hasTwinAhead.cls = true := by decide +kernel
theorem mi_X3_increase : MI yX3_increase cX3_increase 4 none 3 := ⟨cd_X3_increase, by unfold ArOK; decide +kernel⟩
theorem pn_X3_increase : plainName yX3_increase.cls = true := by decide +kernel
theorem mi_X4_about : MI yX4_about cX4_about 3 (some .int) 2 := ⟨cd_X4_about, by unfold ArOK; decide +kernel⟩
theorem pn_X4_about : plainName yX4_about.cls = true := by decide +kernel
theorem mi_X1_countOpenTasksOf : MI yX1_countOpenTasksOf cX1_countOpenTasksOf 4 (some .int) 1 := ⟨cd_X1_countOpenTasksOf, by unfold ArOK; decide +kernel⟩
theorem pn_X1_countOpenTasksOf : plainName yX1_countOpenTasksOf.cls = true := by decide +kernel
theorem mi_X1_isOpenTaskOf : MI yX1_isOpenTaskOf cX1_isOpenTaskOf 3 (some .boolean) 2 := ⟨cd_X1_isOpenTaskOf, by unfold ArOK; decide +kernel⟩
theorem pn_X1_isOpenTaskOf : plainName yX1_isOpenTaskOf.cls = true := by decide +kernel
theorem mi_X1_firstOpenTaskOf : MI yX1_firstOpenTaskOf cX1_firstOpenTaskOf 3 (some .int) 1 := ⟨cd_X1_firstOpenTaskOf, by unfold ArOK; decide +kernel⟩
theorem pn_X1_firstOpenTaskOf : plainName yX1_firstOpenTaskOf.cls = true := by decide +kernel
theorem mi_X4_room : MI yX4_room cX4_room 3 (some .int) 2 := ⟨cd_X4_room, by unfold ArOK; decide +kernel⟩
theorem pn_X4_room : plainName yX4_room.cls = true := by decide +kernel
theorem mi_X4_task : MI yX4_task cX4_task 3 (some .int) 2 := ⟨cd_X4_task, by unfold ArOK; decide +kernel⟩
theorem pn_X4_task : plainName yX4_task.cls = true := by decide +kernel
theorem mi_X4_done : MI yX4_done cX4_done 2 (some .int) 1 := ⟨cd_X4_done, by unfold ArOK; decide +kernel⟩
theorem pn_X4_done : plainName yX4_done.cls = true := by decide +kernel
theorem mi_X1_finish : MI yX1_finish cX1_finish 4 (some .int) 1 := ⟨cd_X1_finish, by unfold ArOK; decide +kernel⟩
theorem pn_X1_finish : plainName yX1_finish.cls = true := by decide +kernel
theorem mi_X1_isTwinOpen : MI yX1_isTwinOpen cX1_isTwinOpen 2 (some .boolean) 1 := ⟨cd_X1_isTwinOpen, by unfold ArOK; decide +kernel⟩
theorem pn_X1_isTwinOpen : plainName yX1_isTwinOpen.cls = true := by decide +kernel
theorem mi_X1_clean : MI yX1_clean cX1_clean 2 none 1 := ⟨cd_X1_clean, by unfold ArOK; decide +kernel⟩
theorem pn_X1_clean : plainName yX1_clean.cls = true := by decide +kernel
theorem mi_X1_dropSwapsWith : MI yX1_dropSwapsWith cX1_dropSwapsWith 3 none 1 := ⟨cd_X1_dropSwapsWith, by unfold ArOK; decide +kernel⟩
theorem pn_X1_dropSwapsWith : plainName yX1_dropSwapsWith.cls = true := by decide +kernel
theorem mi_X3_remove : MI yX3_remove cX3_remove 4 none 1 := ⟨cd_X3_remove, by unfold ArOK; decide +kernel⟩
theorem pn_X3_remove : plainName yX3_remove.cls = true := by decide +kernel
theorem mi_L_does : MI yL_does cL_does 13 (some .boolean) 2 := ⟨cd_L_does, by unfold ArOK; decide +kernel⟩
theorem pn_L_does : plainName yL_does.cls = true := by decide +kernel
theorem mi_X4_swap : MI yX4_swap cX4_swap 5 (some .int) 2 := ⟨cd_X4_swap, by unfold ArOK; decide +kernel⟩
theorem pn_X4_swap : plainName yX4_swap.cls = true := by decide +kernel
theorem mi_X4_end : MI yX4_end cX4_end 1 (some .int) 0 := ⟨cd_X4_end, by unfold ArOK; decide +kernel⟩
theorem pn_X4_end : plainName yX4_end.cls = true := by decide +kernel
theorem mi_X1_endWeek : MI yX1_endWeek cX1_endWeek 3 (some .int) 0 := ⟨cd_X1_endWeek, by unfold ArOK; decide +kernel⟩
theorem pn_X1_endWeek : plainName yX1_endWeek.cls = true := by decide +kernel
theorem mi_X1_skip : MI yX1_skip cX1_skip 4 none 1 := ⟨cd_X1_skip, by unfold ArOK; decide +kernel⟩
theorem pn_X1_skip : plainName yX1_skip.cls = true := by decide +kernel
theorem mi_X3_clear : MI yX3_clear cX3_clear 1 none 0 := ⟨cd_X3_clear, by unfold ArOK; decide +kernel⟩
theorem pn_X3_clear : plainName yX3_clear.cls = true := by decide +kernel
theorem mi_X1_decayPoints : MI yX1_decayPoints cX1_decayPoints 3 none 0 := ⟨cd_X1_decayPoints, by unfold ArOK; decide +kernel⟩
theorem pn_X1_decayPoints : plainName yX1_decayPoints.cls = true := by decide +kernel
theorem mi_X1_growDirt : MI yX1_growDirt cX1_growDirt 3 none 0 := ⟨cd_X1_growDirt, by unfold ArOK; decide +kernel⟩
theorem pn_X1_growDirt : plainName yX1_growDirt.cls = true := by decide +kernel
theorem mi_L_ends : MI yL_ends cL_ends 9 (some .boolean) 1 := ⟨cd_L_ends, by unfold ArOK; decide +kernel⟩
theorem pn_L_ends : plainName yL_ends.cls = true := by decide +kernel
theorem mi_L_extra : MI yL_extra cL_extra 9 (some .boolean) 3 := ⟨cd_L_extra, by unfold ArOK; decide +kernel⟩
theorem pn_L_extra : plainName yL_extra.cls = true := by decide +kernel
theorem mi_X4_extra : MI yX4_extra cX4_extra 3 (some .int) 2 := ⟨cd_X4_extra, by unfold ArOK; decide +kernel⟩
theorem pn_X4_extra : plainName yX4_extra.cls = true := by decide +kernel
theorem mi_X1_payDebt : MI yX1_payDebt cX1_payDebt 4 (some .int) 2 := ⟨cd_X1_payDebt, by unfold ArOK; decide +kernel⟩
theorem pn_X1_payDebt : plainName yX1_payDebt.cls = true := by decide +kernel
theorem mi_X4_propose : MI yX4_propose cX4_propose 3 (some .int) 2 := ⟨cd_X4_propose, by unfold ArOK; decide +kernel⟩
theorem pn_X4_propose : plainName yX4_propose.cls = true := by decide +kernel
theorem mi_X1_canExchange : MI yX1_canExchange cX1_canExchange 3 (some .boolean) 2 := ⟨cd_X1_canExchange, by unfold ArOK; decide +kernel⟩
theorem pn_X1_canExchange : plainName yX1_canExchange.cls = true := by decide +kernel
theorem mi_X1_isProposed : MI yX1_isProposed cX1_isProposed 4 (some .boolean) 2 := ⟨cd_X1_isProposed, by unfold ArOK; decide +kernel⟩
theorem pn_X1_isProposed : plainName yX1_isProposed.cls = true := by decide +kernel
theorem mi_X1_addSwap : MI yX1_addSwap cX1_addSwap 4 (some .int) 2 := ⟨cd_X1_addSwap, by unfold ArOK; decide +kernel⟩
theorem pn_X1_addSwap : plainName yX1_addSwap.cls = true := by decide +kernel
theorem mi_L_proposes : MI yL_proposes cL_proposes 6 (some .boolean) 3 := ⟨cd_L_proposes, by unfold ArOK; decide +kernel⟩
theorem pn_L_proposes : plainName yL_proposes.cls = true := by decide +kernel
theorem mi_X4_answer : MI yX4_answer cX4_answer 3 (some .int) 2 := ⟨cd_X4_answer, by unfold ArOK; decide +kernel⟩
theorem pn_X4_answer : plainName yX4_answer.cls = true := by decide +kernel
theorem mi_X1_acceptSwap : MI yX1_acceptSwap cX1_acceptSwap 7 (some .int) 1 := ⟨cd_X1_acceptSwap, by unfold ArOK; decide +kernel⟩
theorem pn_X1_acceptSwap : plainName yX1_acceptSwap.cls = true := by decide +kernel
theorem mi_X1_gainOfExchange : MI yX1_gainOfExchange cX1_gainOfExchange 3 (some .int) 2 := ⟨cd_X1_gainOfExchange, by unfold ArOK; decide +kernel⟩
theorem pn_X1_gainOfExchange : plainName yX1_gainOfExchange.cls = true := by decide +kernel
theorem mi_X1_declineSwap : MI yX1_declineSwap cX1_declineSwap 2 (some .int) 1 := ⟨cd_X1_declineSwap, by unfold ArOK; decide +kernel⟩
theorem pn_X1_declineSwap : plainName yX1_declineSwap.cls = true := by decide +kernel
theorem mi_L_answers : MI yL_answers cL_answers 11 (some .boolean) 3 := ⟨cd_L_answers, by unfold ArOK; decide +kernel⟩
theorem pn_L_answers : plainName yL_answers.cls = true := by decide +kernel
theorem mi_X4_away : MI yX4_away cX4_away 4 (some .int) 3 := ⟨cd_X4_away, by unfold ArOK; decide +kernel⟩
theorem pn_X4_away : plainName yX4_away.cls = true := by decide +kernel
theorem mi_L_spreads : MI yL_spreads cL_spreads 8 (some .boolean) 1 := ⟨cd_L_spreads, by unfold ArOK; decide +kernel⟩
theorem pn_L_spreads : plainName yL_spreads.cls = true := by decide +kernel
theorem mi_X4_forecast : MI yX4_forecast cX4_forecast 5 (some .int) 2 := ⟨cd_X4_forecast, by unfold ArOK; decide +kernel⟩
theorem pn_X4_forecast : plainName yX4_forecast.cls = true := by decide +kernel
theorem mi_X1_countOpenDeepTasks : MI yX1_countOpenDeepTasks cX1_countOpenDeepTasks 3 (some .int) 0 := ⟨cd_X1_countOpenDeepTasks, by unfold ArOK; decide +kernel⟩
theorem pn_X1_countOpenDeepTasks : plainName yX1_countOpenDeepTasks.cls = true := by decide +kernel
theorem mi_X1_finishOpenTasks : MI yX1_finishOpenTasks cX1_finishOpenTasks 1 none 0 := ⟨cd_X1_finishOpenTasks, by unfold ArOK; decide +kernel⟩
theorem pn_X1_finishOpenTasks : plainName yX1_finishOpenTasks.cls = true := by decide +kernel
theorem mi_X1_finishFromTo : MI yX1_finishFromTo cX1_finishFromTo 4 none 2 := ⟨cd_X1_finishFromTo, by unfold ArOK; decide +kernel⟩
theorem pn_X1_finishFromTo : plainName yX1_finishFromTo.cls = true := by decide +kernel
theorem mi_X1_greatestDirt : MI yX1_greatestDirt cX1_greatestDirt 3 (some .int) 0 := ⟨cd_X1_greatestDirt, by unfold ArOK; decide +kernel⟩
theorem pn_X1_greatestDirt : plainName yX1_greatestDirt.cls = true := by decide +kernel
theorem mi_L_open : MI yL_open cL_open 3 (some .boolean) 1 := ⟨cd_L_open, by unfold ArOK; decide +kernel⟩
theorem pn_L_open : plainName yL_open.cls = true := by decide +kernel
theorem mi_L_comes : MI yL_comes cL_comes 13 (some .boolean) 2 := ⟨cd_L_comes, by unfold ArOK; decide +kernel⟩
theorem pn_L_comes : plainName yL_comes.cls = true := by decide +kernel
theorem mi_X4_wipe : MI yX4_wipe cX4_wipe 2 (some .int) 0 := ⟨cd_X4_wipe, by unfold ArOK; decide +kernel⟩
theorem pn_X4_wipe : plainName yX4_wipe.cls = true := by decide +kernel
theorem mi_X4_put : MI yX4_put cX4_put 4 (some .int) 1 := ⟨cd_X4_put, by unfold ArOK; decide +kernel⟩
theorem pn_X4_put : plainName yX4_put.cls = true := by decide +kernel
theorem mi_X2_countCharacters : MI yX2_countCharacters cX2_countCharacters 7 (some .int) 1 := ⟨cd_X2_countCharacters, by unfold ArOK; decide +kernel⟩
theorem pn_X2_countCharacters : plainName yX2_countCharacters.cls = true := by decide +kernel
theorem mi_X2_append : MI yX2_append cX2_append 5 none 2 := ⟨cd_X2_append, by unfold ArOK; decide +kernel⟩
theorem pn_X2_append : plainName yX2_append.cls = true := by decide +kernel
theorem mi_X4_load : MI yX4_load cX4_load 3 (some .int) 0 := ⟨cd_X4_load, by unfold ArOK; decide +kernel⟩
theorem pn_X4_load : plainName yX4_load.cls = true := by decide +kernel
theorem mi_X2_read : MI yX2_read cX2_read 7 (some .int) 0 := ⟨cd_X2_read, by unfold ArOK; decide +kernel⟩
theorem pn_X2_read : plainName yX2_read.cls = true := by decide +kernel
theorem mi_X2_endOfNumber : MI yX2_endOfNumber cX2_endOfNumber 3 (some .int) 1 := ⟨cd_X2_endOfNumber, by unfold ArOK; decide +kernel⟩
theorem pn_X2_endOfNumber : plainName yX2_endOfNumber.cls = true := by decide +kernel
theorem mi_X2_isDigitAt : MI yX2_isDigitAt cX2_isDigitAt 2 (some .boolean) 1 := ⟨cd_X2_isDigitAt, by unfold ArOK; decide +kernel⟩
theorem pn_X2_isDigitAt : plainName yX2_isDigitAt.cls = true := by decide +kernel
theorem mi_X2_characterAt : MI yX2_characterAt cX2_characterAt 2 (some .int) 1 := ⟨cd_X2_characterAt, by unfold ArOK; decide +kernel⟩
theorem pn_X2_characterAt : plainName yX2_characterAt.cls = true := by decide +kernel
theorem mi_X2_numberIn : MI yX2_numberIn cX2_numberIn 5 (some .int) 2 := ⟨cd_X2_numberIn, by unfold ArOK; decide +kernel⟩
theorem pn_X2_numberIn : plainName yX2_numberIn.cls = true := by decide +kernel
theorem mi_X2_addPart : MI yX2_addPart cX2_addPart 4 none 2 := ⟨cd_X2_addPart, by unfold ArOK; decide +kernel⟩
theorem pn_X2_addPart : plainName yX2_addPart.cls = true := by decide +kernel
theorem mi_X4_undo : MI yX4_undo cX4_undo 1 (some .int) 0 := ⟨cd_X4_undo, by unfold ArOK; decide +kernel⟩
theorem pn_X4_undo : plainName yX4_undo.cls = true := by decide +kernel
theorem mi_X0_restore : MI yX0_restore cX0_restore 3 none 1 := ⟨cd_X0_restore, by unfold ArOK; decide +kernel⟩
theorem pn_X0_restore : plainName yX0_restore.cls = true := by decide +kernel
theorem mi_L_fair : MI yL_fair cL_fair 13 (some .boolean) 1 := ⟨cd_L_fair, by unfold ArOK; decide +kernel⟩
theorem pn_L_fair : plainName yL_fair.cls = true := by decide +kernel
theorem mi_X4_fairer : MI yX4_fairer cX4_fairer 8 (some .int) 1 := ⟨cd_X4_fairer, by unfold ArOK; decide +kernel⟩
theorem pn_X4_fairer : plainName yX4_fairer.cls = true := by decide +kernel
theorem mi_X1_spreadIfExchanged : MI yX1_spreadIfExchanged cX1_spreadIfExchanged 5 (some .int) 2 := ⟨cd_X1_spreadIfExchanged, by unfold ArOK; decide +kernel⟩
theorem pn_X1_spreadIfExchanged : plainName yX1_spreadIfExchanged.cls = true := by decide +kernel
theorem mi_L_told : MI yL_told cL_told 8 (some .boolean) 2 := ⟨cd_L_told, by unfold ArOK; decide +kernel⟩
theorem pn_L_told : plainName yL_told.cls = true := by decide +kernel
theorem mi_X4_fault : MI yX4_fault cX4_fault 1 (some .int) 0 := ⟨cd_X4_fault, by unfold ArOK; decide +kernel⟩
theorem pn_X4_fault : plainName yX4_fault.cls = true := by decide +kernel
theorem mi_L_back : MI yL_back cL_back 11 (some .boolean) 2 := ⟨cd_L_back, by unfold ArOK; decide +kernel⟩
theorem pn_L_back : plainName yL_back.cls = true := by decide +kernel
theorem mi_X4_weigh : MI yX4_weigh cX4_weigh 3 (some .int) 2 := ⟨cd_X4_weigh, by unfold ArOK; decide +kernel⟩
theorem pn_X4_weigh : plainName yX4_weigh.cls = true := by decide +kernel
theorem mi_L_refused : MI yL_refused cL_refused 3 (some .boolean) 2 := ⟨cd_L_refused, by unfold ArOK; decide +kernel⟩
theorem pn_L_refused : plainName yL_refused.cls = true := by decide +kernel
