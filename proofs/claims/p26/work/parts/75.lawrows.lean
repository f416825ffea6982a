/-! THE LAW: its end and what holds at its entry (the skeleton), the script, the set-up -/
def R_law : String := "CleaningRotaLaw"
def lw_P (b : Addr) (xs : List Int32) (args : Array Value) (s : State) : Prop := args = #[.ref b] ∧ s.IntsAt b xs ∧ xs.length ≤ 260 ∧ (Jvm.Cond.and given_1 narrow_1).before args s = true
def lw_Q (_ : Array Value) (s : State) (o : Outcome) (t : State) : Prop := o = .returned (some (.int 1)) ∧ Framed s o t [] 600000 7302250
def lw_Z (below : List Frame) (a : Array Value) (s : State) : State → Prop := fun t => ∃ o, t.status = .running ∧ Ended t below o ∧ lw_Q a s o t
/-- the law's own end, with 1 on the stack, nothing written that was there before, its room as the claim has it -/
theorem lw_ret {p : Program} {l : Launch} {e : Env} {s : State} {m : MethodId} {below : List Frame} {meth : Method} {c : Code} {b : Nat} (hx : p.tables.exec = Jvm.exec) (hb : c.code = code) (hr : meth.sig.returnType = ret) (hlocks : meth.locks = false) {pc : Nat} {H : Heap} {ls : Array Slot} (hdg : decode code pc = .ok (.ireturn, 1)) : W p l e room_1 s m #[Value.ref b] below meth c H [] 600000 7302250 (lw_Z below #[Value.ref b] s) (F0 m pc ls [.int 1]) := by
  intro T hT X
  obtain ⟨fs, hret, hrun, hended, hW, hframe⟩ := X.leave (v := some (.int 1)) (hlocks := hlocks) (fun h => by rw [hr] at h; cases h)
  have hmeth' : T.vm.method? m = some meth := X.method'
  refine ⟨T.setFrames fs, ?_, .returned (some (.int 1)), hrun, hended, rfl, ⟨_, rfl⟩, hW, hframe⟩
  jvm_step X.here [X.here.top, hx, hb, hdg, hmeth', hr, ret, narrow_b1]
  (try refine ⟨rfl, ?_⟩); (try refine ⟨rfl, ?_⟩)
  first | (intro acts; rw [hret _ acts rfl rfl rfl]) | rw [hret _ _ rfl rfl rfl]
  exact Steps.refl _
/-- what holds at the law's entry: the machine, the code, the tables' words (any of lw_tbl by 'hts w (by decide +kernel)'), the script of L ints xs at the cell b, what the Statement gives of the start (any of its parts by flat_of_before) -/
def lw_At (p : Program) (s : State) (m : MethodId) (meth : Method) (c : Code) (b L : Nat) (xs : Nat → Int32) : Prop :=
  p.tables.exec = Jvm.exec ∧ c.code = code ∧ meth.sig.returnType = ret ∧ c.maxLocals = 6 ∧ s.vm.findClass R_law = some m.cls ∧ (∀ w ∈ lw_tbl, w.before #[Value.ref b] s = true) ∧ va_X b L xs s s.heap ∧ b < s.heap.size ∧ meth.locks = false ∧ (Jvm.Cond.and given_1 narrow_1).before #[Value.ref b] s = true
-- a cell of the script
def CP (b L : Nat) (xs : Nat → Int32) (sz : Nat) : State → Prop := fun U => U.heap.size = sz ∧ va_X b L xs U U.heap
theorem cp_blind {b L : Nat} {xs : Nat → Int32} {sz : Nat} {as : List Value} : FrameBlind (va_Pc as (CP b L xs sz)) :=
  fun a U g mk q => ⟨q.1, q.2.1, va_X.moved (u := U) (U := U.calling g mk a) (Vm.Alike.refl U.vm) q.2.2⟩
theorem cp_at {b L : Nat} {xs : Nat → Int32} {as : List Value} {s : State} {H : Heap} (hX : va_X b L xs s H) : ∀ U : State, U.heap = H → s.WarmedH U.vm → va_Pc as (CP b L xs H.size) as.toArray U :=
  fun U hU hW => ⟨rfl, by rw [hU], by rw [hU]; exact va_X.moved hW.alike hX⟩
set_option maxHeartbeats 1000000 in
theorem c_cell (l : Launch) {b L k sz : Nat} {xs : Nat → Int32} (hb : b < sz) (hk : k < 2 ^ 31) (hL : L < 2 ^ 31) : Met l yL_cell (.code yL_cell cL_cell 2 (some .int) :: TG) (Rm 0) (va_Pc [Value.ref b, Value.int (nI k)] (CP b L xs sz)) (va_Qi (fun (_ : Int32) (_ : Unit) => True) (fun _ _ => True) (fun q => sz ≤ q)) 0 0 (fun q => sz ≤ q) := by
  refine Met.ofW (cc := cL_cell) (maxL := 2) (ret := some .int) (by decide +kernel) rfl ?_
  intro p e s m args below meth c s₁ B hml hv
  obtain ⟨rfl, hsz, hX⟩ := hv
  subst hsz
  have hts := atoms_spec (ws := .code yL_cell cL_cell 2 (some .int) :: TG) B.pre
  have hl := lv_entry [Value.ref b, Value.int (nI k)] (n := 2) (Nat.le_of_ble_eq_true rfl)
  rw [lg_entry_eq]
  generalize (lg_sl [Value.ref b, Value.int (nI k)] ++ List.replicate (2 - (lg_sl [Value.ref b, Value.int (nI k)]).length) Slot.unset).toArray = ls at hl ⊢
  have hx := B.exec
  have hby := B.bytes
  have hS : va_S (fun q : Nat => s.heap.size ≤ q) s.heap s.heap [] := va_S.rf
  have hbA : ¬ (fun q : Nat => s.heap.size ≤ q) b := Nat.not_le.mpr hb
  have fin : ∀ v : Int32, W p l e (Rm 0) s m #[Value.ref b, Value.int (nI k)] below meth c s.heap [] 0 0 (MQ below (va_Qi (fun (_ : Int32) (_ : Unit) => True) (fun _ _ => True) (fun q => s.heap.size ≤ q)) #[Value.ref b, Value.int (nI k)] s 0 0 (fun q => s.heap.size ≤ q)) (F0 m 20 ls [.int v]) := fun v =>
    W.iret hx hby B.returns (fun t ht hW => ⟨⟨v, (), rfl, trivial, trivial⟩, hS.F ht⟩) hS.2.2 (show decode cL_cell 20 = .ok (.ireturn, 1) by decide +kernel) B.notSynchronized
  refine lv_iload_n hx hby (show decode cL_cell 0 = .ok (.iload_n 1, 1) by decide +kernel) rfl (lv_at hl 1 rfl) ?_
  refine lv_aload_n hx hby (show decode cL_cell 1 = .ok (.aload_n 0, 1) by decide +kernel) rfl (lv_at hl 0 rfl) ?_
  refine va_slen hx hby hX hb hbA hS (show decode cL_cell 2 = .ok (.arraylength, 1) by decide +kernel) ?_
  refine lv_icmp_ge (off := 9) (tgt := 12) hx hby (show decode cL_cell 3 = .ok (.if_icmp .ge 9, 3) by decide +kernel) (by decide) (fun z => ?_) (fun z => ?_)
  · refine lv_ldc hx hby (own := RL) (index := 7) (v := 73244475) (findClass_of_methodNamed B.named) (hts _ (List.mem_cons_of_mem _ ki_RL_7)) (show decode cL_cell 12 = .ok (.ldc 7, 2) by decide +kernel) ?_
    refine lv_iload_n hx hby (show decode cL_cell 14 = .ok (.iload_n 1, 1) by decide +kernel) rfl (lv_at hl 1 rfl) ?_
    refine lv_sipush (v := 1567) hx hby (show decode cL_cell 15 = .ok (.sipush 1567, 3) by decide +kernel) (by decide) ?_
    refine lv_iadd hx hby (show decode cL_cell 18 = .ok (.iadd, 1) by decide +kernel) ?_
    refine lv_imul hx hby (show decode cL_cell 19 = .ok (.imul, 1) by decide +kernel) ?_
    exact fin _
  · have hkL : k < L := by
      refine Nat.lt_of_not_le (fun q => z ?_)
      exact nI_le q hk
    refine lv_aload_n hx hby (show decode cL_cell 6 = .ok (.aload_n 0, 1) by decide +kernel) rfl (lv_at hl 0 rfl) ?_
    refine lv_iload_n hx hby (show decode cL_cell 7 = .ok (.iload_n 1, 1) by decide +kernel) rfl (lv_at hl 1 rfl) ?_
    refine va_sld hx hby hX hb hbA hS (vp_in_nI hkL hL) (show decode cL_cell 8 = .ok (.iaload, 1) by decide +kernel) ?_
    refine lv_goto (off := 11) (tgt := 20) hx hby (show decode cL_cell 9 = .ok (.goto 11, 3) by decide +kernel) (by decide) ?_
    exact fin _
-- what the law's own judgement stands on
def LKL (b L : Nat) (xs : Nat → Int32) : LK := fun E s args below => (args = #[Value.ref b] ∧ E.1 (8, 0, 0) = b ∧ va_X b L xs s s.heap ∧ b < s.heap.size, (fun q : Nat => s.heap.size ≤ q, lw_Z below args s))
section LCONS
variable {l : Launch} {R : Room} {cc : ByteArray} {nL : Nat} {ret' : Option FieldType} {K : LK} {pc : Nat} {A : List Nat} {B : LB} {loc : List (Option AV)} {st : List AV} {X : XS} {cs sl : Nat}
theorem l_cell {b L k : Nat} {xs : Nat → Int32} {x : Int32} (rest : List AV) (hx0 : x = nI k) (hk : k < 2 ^ 31) (hL : L < 2 ^ 31) (hR : 0 + 1 ≤ R.frames ∧ 8 + (2 + 11) + 32 * 0 ≤ R.locals) (hs : st = vI x :: vR (8, 0, 0) :: rest) (hcat : (rest.map aCat).sum ≤ 8) (hcs : cs ≤ R.cells ∧ sl ≤ R.slots) (hd : decode cc pc = .ok (.invokestatic 12, 3))
    (kk : ∀ v : Int32, GL l R cc nL ret' (LKL b L xs) (pc + 3) A B loc (vI v :: rest) X cs sl) : GL l R cc nL ret' (LKL b L xs) pc A B loc st X cs sl := by
  intro E σ p e s m args below meth c H locs ls C hc hA hσ hX hx hlen hlv hP hD hS
  obtain ⟨hx0', hb, hml, hown, hts, hr, hlk, hK, hE⟩ := id C
  obtain ⟨ha, hE8, hXs, hbl⟩ := id hc
  subst hs
  subst hx0
  have hXH : va_X b L xs s H := hXs.kept (hS.2.1 b hbl (Nat.not_le.mpr hbl))
  have hbH : b < H.size := Nat.lt_of_lt_of_le hbl hS.1
  have hM := c_cell l (L := L) (xs := xs) hbH hk hL
  have hcw := va_cwS (own := RL) (index := 12) (y := yL_cell) (R := R) (args := args) (s := s) (bytes := cL_cell) (maxL := 2) (ret := some .int) (rm := Rm 0) (mc := 0) (ms := 0) (ws := .code yL_cell cL_cell 2 (some .int) :: TG) (ws' := TG) (Ts := TG) 2 hts (good_TG (fun w hw => by
      rcases List.mem_append.mp hw with h | h
      · simp only [List.mem_cons, List.not_mem_nil, or_false] at h
        rcases h with h | h | h
        · rw [h]; exact sl_RL_12.1
        · rw [h]; exact sl_RL_12.2.1
        · rw [h]; exact sl_RL_12.2.2
      · rcases List.mem_cons.mp h with h | h
        · rw [h]; exact mi_L_cell.1
        · exact h)) rfl rfl rfl mi_L_cell.2 hR
  have hsk : (F0 m pc ls ((vI (nI k) :: vR (8, 0, 0) :: rest).map (cv E))).stack = ([Value.ref b, Value.int (nI k)] : List Value).reverse ++ rest.map (cv E) := by
    show Value.int (nI k) :: Value.ref (E.1 (8, 0, 0)) :: rest.map (cv E) = _
    rw [hE8]
    rfl
  refine va_calli (a := ([Value.ref b, Value.int (nI k)] : List Value).toArray) (va_runS (As := [Value.ref b, Value.int (nI k)]) (rest := rest.map (cv E)) ⟨hx0', hb, hml, hown, hts⟩ hM hcw ⟨cp_blind, cp_at hXH⟩ rfl rfl hlv.1 hsk (lv_room (by rw [cat_sum]; exact hcat)) hd hcs) hS (fun q h1 h2 => absurd h2 (Nat.not_le.mpr h1)) (fun q h => Nat.le_trans hS.1 h) (fun r u t H1 locs1 ht hvm hw hB hz hk' hS1 => ?_)
  exact kk r E σ p e s m args below meth c H1 locs1 ls C hc hA hσ hX hx hlen hlv (hP.kept (fun j q hj => hk' q.1 (hP j q hj).lt (Nat.not_le.mpr (hP j q hj).lt))) hD hS1
end LCONS
theorem l_lret {l : Launch} {b L pc : Nat} {xs : Nat → Int32} {A : List Nat} {B : LB} {loc : List (Option AV)} {X : XS} {cs sl : Nat} (hcs : cs ≤ 600000 ∧ sl ≤ 7302250) (hd : decode code pc = .ok (.ireturn, 1)) : GL l room_1 code 6 ret (LKL b L xs) pc A B loc [vI 1] X cs sl := by
  intro E σ p e s m args below meth c H locs ls C hc hA hσ hX hx hlen hlv hP hD hS
  obtain ⟨rfl, -⟩ := id hc
  refine va_forget hS.2.2 ?_
  refine W.widen (k := 600000) (n := 7302250) hcs.1 hcs.2 ?_
  exact lw_ret C.1 C.2.1 C.2.2.2.2.2.1 C.2.2.2.2.2.2.1 hd
-- while the house is set up
def SQ (n0 n1 : Nat) (X : XS) : Prop := V X.1 0 ∧ sz X.1 0 = n0 ∧ sz X.1 1 = n1 ∧ X.1.2 5 = 0 ∧ X.2.1.length ≤ 6
theorem SQ.J {n0 n1 : Nat} {X : XS} (h : SQ n0 n1 X) (h0 : 1 ≤ n0) (h1 : 1 ≤ n1) : J 0 X := by
  obtain ⟨a, b, c, d, e⟩ := h
  exact ⟨a, ⟨by rw [b]; exact h0, by rw [c]; exact h1⟩, ⟨0, Nat.le_refl _, d⟩, e⟩
theorem q_set {n0 n1 j : Nat} {S : HA} {Hs : List HA} {P : PV} {v : Int32} (h : SQ n0 n1 (S, (Hs, P))) (hj : j < 4) (hok : setOkS (nI j) v = 1) (h2 : j = 2 → ∃ d, 2 ≤ d ∧ d ≤ 6 ∧ v = nI d) : ∃ (a : Int32) (S' : HA) (Hs' : List HA), xset S Hs P (nI j) v = (a, (S', (Hs', P))) ∧ SQ n0 n1 (S', (Hs', P)) := by
  obtain ⟨hV, b, c, d, e⟩ := h
  have h4 : sz S 4 = 1 := hV.1.2.2.1
  refine ⟨cl S 4 0 (nI j), Wc S 4 0 j v, keepL Hs S, ?_, v_set hV h2, sz_W.trans b, sz_W.trans c, d, keep6' e⟩
  rw [xset, hok, if_pos (by decide), show wr S 4 0 (nI j) v = Wc S 4 0 j v from wr_n (r := 0) (by omega) (show j < wid 4 from hj) (by omega)]
  rfl
theorem q_set0 {n0 n1 u : Nat} {S : HA} {Hs : List HA} {P : PV} (h : SQ n0 n1 (S, (Hs, P))) (hu : u < 101) : ∃ (a : Int32) (S' : HA) (Hs' : List HA), xset S Hs P 0 (nI u) = (a, (S', (Hs', P))) ∧ SQ n0 n1 (S', (Hs', P)) :=
  q_set h (j := 0) (by decide) ((sw_in (j := 0) (by decide) (by decide)).trans (isIn_yes (a := 0) (b := 100) (by decide) (by omega) (by omega))) (fun z => absurd z (by decide))
theorem q_set1 {n0 n1 u : Nat} {S : HA} {Hs : List HA} {P : PV} (h : SQ n0 n1 (S, (Hs, P))) (hu : u < 101) : ∃ (a : Int32) (S' : HA) (Hs' : List HA), xset S Hs P 1 (nI u) = (a, (S', (Hs', P))) ∧ SQ n0 n1 (S', (Hs', P)) :=
  q_set h (j := 1) (by decide) ((sw_in (j := 1) (by decide) (by decide)).trans (isIn_yes (a := 0) (b := 100) (by decide) (by omega) (by omega))) (fun z => absurd z (by decide))
theorem q_set2 {n0 n1 u : Nat} {S : HA} {Hs : List HA} {P : PV} (h : SQ n0 n1 (S, (Hs, P))) (hu : u < 5) : ∃ (a : Int32) (S' : HA) (Hs' : List HA), xset S Hs P 2 (nI (2 + u)) = (a, (S', (Hs', P))) ∧ SQ n0 n1 (S', (Hs', P)) :=
  q_set h (j := 2) (by decide) ((sw_in (j := 2) (by decide) (by decide)).trans (isIn_yes (a := 2) (b := 6) (by decide) (by omega) (by omega))) (fun _ => ⟨2 + u, by omega, by omega, rfl⟩)
theorem q_set3 {n0 n1 u : Nat} {S : HA} {Hs : List HA} {P : PV} (h : SQ n0 n1 (S, (Hs, P))) (hu : u < 400) : ∃ (a : Int32) (S' : HA) (Hs' : List HA), xset S Hs P 3 (nI (50 + u)) = (a, (S', (Hs', P))) ∧ SQ n0 n1 (S', (Hs', P)) :=
  q_set h (j := 3) (by decide) ((sw_in (j := 3) (by decide) (by decide)).trans (isIn_yes (a := 1) (b := 1000) (by decide) (by omega) (by omega))) (fun z => absurd z (by decide))
theorem q_res {n0 n1 w : Nat} {S : HA} {Hs : List HA} {P : PV} (h : SQ n0 n1 (S, (Hs, P))) (h8 : n0 < 8) (h1 : 1 ≤ w) (h2 : w ≤ 10) : ∃ (S' : HA) (Hs' : List HA), xresident S Hs P (nI w) = (nI n0, (S', (Hs', P))) ∧ SQ (n0 + 1) n1 (S', (Hs', P)) := by
  obtain ⟨hV, b, c, d, e⟩ := h
  have hb : sz S 0 = n0 := b
  have eR := addR_eq (S := S) (w := nI w) (by omega)
  refine ⟨addResS S (nI w), keepL Hs S, ?_, v_addR hV (by omega) h1 h2, ?_, ?_, d, keep6' e⟩
  · rw [xresident, show isInS (nI w) 1 10 = 1 from isIn_yes (a := 1) (b := 10) (by decide) h1 h2, if_pos (by decide), fullS, if_neg (show ¬ mst 0 ≤ sz S 0 by show ¬ 8 ≤ sz S 0; omega), if_pos rfl, hb]
    rfl
  · show sz (addResS S (nI w)) 0 = _
    rw [eR, addRN, sz_W, sz_W, sz_W, sz_app, if_pos rfl, hb]
  · show sz (addResS S (nI w)) 1 = _
    rw [eR, addRN, sz_W, sz_W, sz_W, sz_app, if_neg (by decide)]
    exact c
theorem q_area {n0 n1 x p g : Nat} {S : HA} {Hs : List HA} {P : PV} (h : SQ n0 n1 (S, (Hs, P))) (h6 : n1 < 6) (h1 : 1 ≤ x) (h2 : x ≤ 20) (h3 : 1 ≤ p) (h4 : p ≤ 4) (h5 : g ≤ 200) : ∃ (S' : HA) (Hs' : List HA), xarea S Hs P (nI x) (nI p) (nI g) = (nI n1, (S', (Hs', P))) ∧ SQ n0 (n1 + 1) (S', (Hs', P)) := by
  obtain ⟨hV, b, c, d, e⟩ := h
  have hc : sz S 1 = n1 := c
  have eA := addA_eq (S := S) (e := nI x) (p := nI p) (g := nI g) (by omega)
  refine ⟨addAreaS S (nI x) (nI p) (nI g), keepL Hs S, ?_, v_addA hV (by omega) h1 h2 h3 h4, ?_, ?_, d, keep6' e⟩
  · rw [xarea, show isInS (nI x) 1 20 = 1 from isIn_yes (a := 1) (b := 20) (by decide) h1 h2, if_neg (by decide), show isInS (nI p) 1 4 = 1 from isIn_yes (a := 1) (b := 4) (by decide) h3 h4, if_neg (by decide), show isInS (nI g) 0 200 = 1 from isIn_yes (a := 0) (b := 200) (by decide) (Nat.zero_le _) h5, if_pos (by decide), fullS, if_neg (show ¬ mst 1 ≤ sz S 1 by show ¬ 6 ≤ sz S 1; omega), if_pos rfl, hc]
    rfl
  · show sz (addAreaS S (nI x) (nI p) (nI g)) 0 = _
    rw [eA, addAN, sz_W, sz_W, sz_W, sz_app, if_neg (by decide)]
    exact b
  · show sz (addAreaS S (nI x) (nI p) (nI g)) 1 = _
    rw [eA, addAN, sz_W, sz_W, sz_W, sz_app, if_pos rfl, hc]
