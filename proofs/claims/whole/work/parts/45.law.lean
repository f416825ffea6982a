/-! THE CLAIM OUT OF ONE WALK OF THE LAW'S BODY. Your part is whole_start (and what it stands on); all else here is the same for every law, but numbers. -/
def R_law : String := "CleaningRotaLaw"
def lw_P (b : Addr) (xs : List Int32) (args : Array Value) (s : State) : Prop := args = #[.ref b] ∧ s.IntsAt b xs ∧ xs.length ≤ 2048 ∧ (Jvm.Cond.and given_1 narrow_1).before args s = true
def lw_Q (_ : Array Value) (s : State) (o : Outcome) (t : State) : Prop := o = .returned (some (.int 1)) ∧ Framed s o t [] 600000 7302250
def lw_Z (below : List Frame) (a : Array Value) (s : State) : State → Prop := fun t => ∃ o, t.status = .running ∧ Ended t below o ∧ lw_Q a s o t
/-- the law's own end, with 1 on the stack, nothing written that was there before, its room as the claim has it -/
theorem lw_ret {p : Program} {l : Launch} {e : Env} {s : State} {m : MethodId} {below : List Frame} {meth : Method} {c : Code} {b : Nat} (hx : p.tables.exec = Jvm.exec) (hb : c.code = code) (hr : meth.sig.returnType = ret) (hlocks : meth.locks = false) {pc : Nat} {H : Heap} {ls : Array Slot} (hdg : decode code pc = .ok (.ireturn, 1)) : W p l e room_1 s m #[Value.ref b] below meth c H [] 600000 7302250 (lw_Z below #[Value.ref b] s) (F0 m pc ls [.int 1]) := by
  intro T hT X
  obtain ⟨fs, hret, hrun, hended, hW, hframe⟩ := X.leave (v := some (.int 1)) (hlocks := hlocks) (fun h => by rw [hr] at h; cases h)
  have hmeth' : T.vm.method? m = some meth := X.method'
  refine ⟨T.setFrames fs, ?_, .returned (some (.int 1)), hrun, hended, rfl, ⟨_, rfl⟩, hW, hframe⟩
  jvm_step X.here [X.here.top, hx, hb, hdg, hmeth', hr, ret, narrow_b1]
  (try refine ⟨rfl, ?_⟩); (try refine ⟨rfl, ?_⟩)
  first | (intro acts; rw [hret _ acts rfl rfl rfl]) | rw [hret _ _ rfl rfl rfl]
  exact Steps.refl _
/-- what holds at the law's entry: the machine, the code, the tables' words (any of lw_tbl by 'hts w (by decide +kernel)'), the script of L ints xs at the cell b, what the Statement gives of the start (any of its parts by flat_of_before) -/
def lw_At (p : Program) (s : State) (m : MethodId) (meth : Method) (c : Code) (b L : Nat) (xs : Nat → Int32) : Prop :=
  p.tables.exec = Jvm.exec ∧ c.code = code ∧ meth.sig.returnType = ret ∧ c.maxLocals = 4 ∧ s.vm.findClass R_law = some m.cls ∧ (∀ w ∈ lw_tbl, w.before #[Value.ref b] s = true) ∧ va_X b L xs s s.heap ∧ b < s.heap.size ∧ meth.locks = false ∧ (Jvm.Cond.and given_1 narrow_1).before #[Value.ref b] s = true
def LC (E : EV) (p : Program) (s : State) (m : MethodId) (meth : Method) (c : Code) (b L : Nat) (xs : Nat → Int32) : Prop := lw_At p s m meth c b L xs ∧ KE E s ∧ AdOK E ∧ (∀ q ∈ allLo, s.heap.size ≤ E.1 q) ∧ L ≤ 2048
def LV (E : EV) (b : Nat) (i : Int32) : List (Nat × Value) := [(0, .ref b), (1, .ref (E.1 (7, 0, 0))), (2, .ref (E.1 (8, 0, 0))), (3, .int i)]
def LG (l : Launch) (E : EV) (p : Program) (e : Env) (s : State) (m : MethodId) (below : List Frame) (meth : Method) (c : Code) (b cells slots : Nat) (σ : Sg) (pc : Nat) (i : Int32) (st : List Value) : Prop :=
  ∀ (H : Heap) (locs : List Jvm.Loc) (ls : Array Slot), POK σ → va_P E.2.1 vwCl (wsOf E σ) H → va_S (fun q : Nat => s.heap.size ≤ q) s.heap H locs → lv_has ls 4 (LV E b i) → W p l e room_1 s m #[.ref b] below meth c H locs cells slots (lw_Z below #[.ref b] s) (F0 m pc ls st)
section LAW
variable {l : Launch} {E : EV} {p : Program} {e : Env} {s : State} {m : MethodId} {below : List Frame} {meth : Method} {c : Code} {b L : Nat} {xs : Nat → Int32} {cells slots : Nat} {σ : Sg} {pc : Nat} {i : Int32} {st : List Value}
theorem lg_x (Γ : LC E p s m meth c b L xs) (hd : decode code pc = .ok (.aload_n 1, 1)) (k : LG l E p e s m below meth c b cells slots σ (pc + 1) i (.ref (E.1 (7, 0, 0)) :: st)) : LG l E p e s m below meth c b cells slots σ pc i st := by
  intro H locs ls hσ hP hS hl
  obtain ⟨⟨hx, hb, -⟩, -⟩ := Γ
  exact lv_aload_n hx hb hd rfl (lv_at hl 1 rfl) (k H locs ls hσ hP hS hl)
theorem lg_m (Γ : LC E p s m meth c b L xs) (hd : decode code pc = .ok (.aload_n 2, 1)) (k : LG l E p e s m below meth c b cells slots σ (pc + 1) i (.ref (E.1 (8, 0, 0)) :: st)) : LG l E p e s m below meth c b cells slots σ pc i st := by
  intro H locs ls hσ hP hS hl
  obtain ⟨⟨hx, hb, -⟩, -⟩ := Γ
  exact lv_aload_n hx hb hd rfl (lv_at hl 2 rfl) (k H locs ls hσ hP hS hl)
theorem lg_i2l (Γ : LC E p s m meth c b L xs) {x : Int32} (hd : decode code pc = .ok (.i2l, 1)) (k : LG l E p e s m below meth c b cells slots σ (pc + 1) i (.long x.toInt64 :: st)) : LG l E p e s m below meth c b cells slots σ pc i (.int x :: st) := by
  intro H locs ls hσ hP hS hl
  obtain ⟨⟨hx, hb, -⟩, -⟩ := Γ
  exact lv_i2l hx hb hd rfl (k H locs ls hσ hP hS hl)
theorem lg_bi32 (Γ : LC E p s m meth c b L xs) (hd : decode code pc = .ok (.bipush 32, 2)) (k : LG l E p e s m below meth c b cells slots σ (pc + 2) i (.int 32 :: st)) : LG l E p e s m below meth c b cells slots σ pc i st := by
  intro H locs ls hσ hP hS hl
  obtain ⟨⟨hx, hb, -⟩, -⟩ := Γ
  exact lv_bipush hx hb hd (by decide) (k H locs ls hσ hP hS hl)
theorem lg_lshl (Γ : LC E p s m meth c b L xs) {x : Int64} {y : Int32} (hd : decode code pc = .ok (.lshl, 1)) (k : LG l E p e s m below meth c b cells slots σ (pc + 1) i (.long (x <<< (y.toInt64 &&& 63)) :: st)) : LG l E p e s m below meth c b cells slots σ pc i (.int y :: .long x :: st) := by
  intro H locs ls hσ hP hS hl
  obtain ⟨⟨hx, hb, -⟩, -⟩ := Γ
  exact lv_lshl hx hb hd rfl (k H locs ls hσ hP hS hl)
theorem lg_ldc (Γ : LC E p s m meth c b L xs) (hd : decode code pc = .ok (.ldc2_w 89, 3)) (k : LG l E p e s m below meth c b cells slots σ (pc + 3) i (.long 4294967295 :: st)) : LG l E p e s m below meth c b cells slots σ pc i st := by
  intro H locs ls hσ hP hS hl
  obtain ⟨⟨hx, hb, hr, hml, hown, hts, -⟩, -⟩ := Γ
  exact lv_ldc2 hx hb hown (hts _ (TG_in _ kl_RL)) hd (k H locs ls hσ hP hS hl)
theorem lg_land (Γ : LC E p s m meth c b L xs) {x y : Int64} (hd : decode code pc = .ok (.land, 1)) (k : LG l E p e s m below meth c b cells slots σ (pc + 1) i (.long (x &&& y) :: st)) : LG l E p e s m below meth c b cells slots σ pc i (.long y :: .long x :: st) := by
  intro H locs ls hσ hP hS hl
  obtain ⟨⟨hx, hb, -⟩, -⟩ := Γ
  exact lv_land hx hb hd (k H locs ls hσ hP hS hl)
theorem lg_lor (Γ : LC E p s m meth c b L xs) {x y : Int64} (hd : decode code pc = .ok (.lor, 1)) (k : LG l E p e s m below meth c b cells slots σ (pc + 1) i (.long (x ||| y) :: st)) : LG l E p e s m below meth c b cells slots σ pc i (.long y :: .long x :: st) := by
  intro H locs ls hσ hP hS hl
  obtain ⟨⟨hx, hb, -⟩, -⟩ := Γ
  exact lv_lor hx hb hd (k H locs ls hσ hP hS hl)
theorem lg_eq (Γ : LC E p s m meth c b L xs) {x y : Int32} {off : Int} (hxy : x = y) (hd : decode code pc = .ok (.if_icmp .eq off, 3)) (ht : (pc : Int) + off = ((779 : Nat) : Int)) (k : LG l E p e s m below meth c b cells slots σ 779 i st) : LG l E p e s m below meth c b cells slots σ pc i (.int y :: .int x :: st) := by
  intro H locs ls hσ hP hS hl
  obtain ⟨⟨hx, hb, -⟩, -⟩ := Γ
  exact lv_icmp_eq hx hb hd ht (fun _ => k H locs ls hσ hP hS hl) (fun z => absurd hxy z)
theorem lg_arg1 (Γ : LC E p s m meth c b L xs) {j : Nat} (hj : j + 4 ≤ L) (h0 : decode code pc = .ok (.aload_n 0, 1)) (h1 : decode code (pc + 1) = .ok (.iload_n 3, 1)) (h2 : decode code (pc + 1 + 1) = .ok (.iconst 1, 1)) (h3 : decode code (pc + 1 + 1 + 1) = .ok (.iadd, 1)) (h4 : decode code (pc + 1 + 1 + 1 + 1) = .ok (.iaload, 1)) (k : LG l E p e s m below meth c b cells slots σ (pc + 1 + 1 + 1 + 1 + 1) (nI j) (.int (xs (j + 1)) :: st)) : LG l E p e s m below meth c b cells slots σ pc (nI j) st := by
  intro H locs ls hσ hP hS hl
  obtain ⟨⟨hx, hb, hr, hml, hown, hts, hX, hbl, hlk, hgv⟩, hKE, hE, hEA, hL⟩ := Γ
  refine lv_aload_n hx hb h0 rfl (lv_at hl 0 rfl) ?_
  refine lv_iload_n hx hb h1 rfl (lv_at hl 3 rfl) ?_
  refine lv_iconst (v := 1) hx hb h2 (by decide) ?_
  refine lv_iadd hx hb h3 ?_
  have e : nI j + (1 : Int32) = nI (j + 1) := nI_add j 1
  rw [e]
  refine va_sld hx hb hX hbl (A := fun q : Nat => s.heap.size ≤ q) (Nat.not_le.mpr hbl) hS (vp_in_nI (show j + 1 < L by omega) (by omega)) h4 ?_
  rw [nI_clamp (by omega)]
  exact k H locs ls hσ hP hS hl
theorem lg_arg2 (Γ : LC E p s m meth c b L xs) {j : Nat} (hj : j + 4 ≤ L) (h0 : decode code pc = .ok (.aload_n 0, 1)) (h1 : decode code (pc + 1) = .ok (.iload_n 3, 1)) (h2 : decode code (pc + 1 + 1) = .ok (.iconst 2, 1)) (h3 : decode code (pc + 1 + 1 + 1) = .ok (.iadd, 1)) (h4 : decode code (pc + 1 + 1 + 1 + 1) = .ok (.iaload, 1)) (k : LG l E p e s m below meth c b cells slots σ (pc + 1 + 1 + 1 + 1 + 1) (nI j) (.int (xs (j + 2)) :: st)) : LG l E p e s m below meth c b cells slots σ pc (nI j) st := by
  intro H locs ls hσ hP hS hl
  obtain ⟨⟨hx, hb, hr, hml, hown, hts, hX, hbl, hlk, hgv⟩, hKE, hE, hEA, hL⟩ := Γ
  refine lv_aload_n hx hb h0 rfl (lv_at hl 0 rfl) ?_
  refine lv_iload_n hx hb h1 rfl (lv_at hl 3 rfl) ?_
  refine lv_iconst (v := 2) hx hb h2 (by decide) ?_
  refine lv_iadd hx hb h3 ?_
  have e : nI j + (2 : Int32) = nI (j + 2) := nI_add j 2
  rw [e]
  refine va_sld hx hb hX hbl (A := fun q : Nat => s.heap.size ≤ q) (Nat.not_le.mpr hbl) hS (vp_in_nI (show j + 2 < L by omega) (by omega)) h4 ?_
  rw [nI_clamp (by omega)]
  exact k H locs ls hσ hP hS hl
theorem lg_arg3 (Γ : LC E p s m meth c b L xs) {j : Nat} (hj : j + 4 ≤ L) (h0 : decode code pc = .ok (.aload_n 0, 1)) (h1 : decode code (pc + 1) = .ok (.iload_n 3, 1)) (h2 : decode code (pc + 1 + 1) = .ok (.iconst 3, 1)) (h3 : decode code (pc + 1 + 1 + 1) = .ok (.iadd, 1)) (h4 : decode code (pc + 1 + 1 + 1 + 1) = .ok (.iaload, 1)) (k : LG l E p e s m below meth c b cells slots σ (pc + 1 + 1 + 1 + 1 + 1) (nI j) (.int (xs (j + 3)) :: st)) : LG l E p e s m below meth c b cells slots σ pc (nI j) st := by
  intro H locs ls hσ hP hS hl
  obtain ⟨⟨hx, hb, hr, hml, hown, hts, hX, hbl, hlk, hgv⟩, hKE, hE, hEA, hL⟩ := Γ
  refine lv_aload_n hx hb h0 rfl (lv_at hl 0 rfl) ?_
  refine lv_iload_n hx hb h1 rfl (lv_at hl 3 rfl) ?_
  refine lv_iconst (v := 3) hx hb h2 (by decide) ?_
  refine lv_iadd hx hb h3 ?_
  have e : nI j + (3 : Int32) = nI (j + 3) := nI_add j 3
  rw [e]
  refine va_sld hx hb hX hbl (A := fun q : Nat => s.heap.size ≤ q) (Nat.not_le.mpr hbl) hS (vp_in_nI (show j + 3 < L by omega) (by omega)) h4 ?_
  rw [nI_clamp (by omega)]
  exact k H locs ls hσ hP hS hl
theorem lg_call (Γ : LC E p s m meth c b L xs) {k idx maxL n : Nat} {y : MethodName} {bytes : ByteArray} {P : Option AV → Sg → Prop} (bq : Lo) (As : List AV) (rest : List Value) {x : Nat × List FS} {r : vw_C}
    (hl : VLink RL idx y) (hm : MI y bytes maxL (some .int) n) (hC : Con l k y bytes maxL (some .int) (vR bq :: As) σ P) (hsh : shp bq = .inl x) (hc : vwCl[x.1]? = some r) (hcl : r.1 = y.cls) (hbo : bq ∈ allLo) (has : ∀ v ∈ As, okV v) (hn : As.length = n) (hR : k + 1 ≤ room_1.frames ∧ 8 + (maxL + 11) + 32 * k ≤ room_1.locals)
    (hcat : (rest.map fun v => v.category).sum ≤ 8) (hcs : cells ≤ room_1.cells ∧ slots ≤ room_1.slots) (hd : decode code pc = .ok (.invokevirtual idx, 3)) (hs : st = (As.map (cv E)).reverse ++ .ref (E.1 bq) :: rest)
    (kk : ∀ (v : Int32) (σ' : Sg), P (some (vI v)) σ' → LG l E p e s m below meth c b cells slots σ' (pc + 3) i (.int v :: rest)) : LG l E p e s m below meth c b cells slots σ pc i st := by
  intro H locs ls hσ hP hS hlv
  obtain ⟨⟨hx, hb, hr, hml, hown, hts0, hX, hbl, hlk, hgv⟩, hKE, hE, hEA, hL⟩ := Γ
  subst hs
  have hts : ∀ w ∈ TG, w.before #[.ref b] s = true := fun w hw => hts0 w (TG_in w hw)
  have hall : ∀ v ∈ vR bq :: As, okV v := fun v hv => by
    rcases List.mem_cons.mp hv with q | q
    · rw [q]; exact hbo
    · exact has v q
  obtain ⟨i0, hi0⟩ := List.getElem?_of_mem hbo
  have hg : (wsOf E σ)[i0]? = some (E.1 bq, .inr (x.1, fvs E (σ.1 bq) 0 x.2)) := by rw [ws_get hi0, entry_obj hsh]
  have hrec := va_recv hKE.1 hP hc hg
  rw [hcl] at hrec
  have hM := hC E hE hσ hall H.size
  have hcw : CallW room_1 s #[.ref b] RL y.cls idx y bytes maxL (some .int) (.code y bytes maxL (some .int) :: TG) (Rm k) 0 0 n :=
    cwV n hts (good_TG (fun w hw => by
      rcases List.mem_append.mp hw with h | h
      · simp only [List.mem_cons, List.not_mem_nil, or_false] at h
        rcases h with h | h | h | h
        · rw [h]; exact hl.1
        · rw [h]; exact hl.2.1
        · rw [h]; exact hl.2.2.1
        · rw [h]; exact hl.2.2.2
      · rcases List.mem_cons.mp h with h | h
        · rw [h]; exact hm.1
        · exact h)) rfl rfl rfl ⟨rfl, hm.2⟩ hR
  have hF : ∀ q, AE E H.size q → s.heap.size ≤ q := fun q h => h.elim (fun z => by obtain ⟨z, hz, e⟩ := z; rw [e]; exact hEA z hz) (fun z => Nat.le_trans hS.1 z)
  refine va_calli (va_runV (b := E.1 bq) (As := As.map (cv E)) (rest := rest) ⟨hx, hb, hml, hown, hts⟩ hM hcw ⟨pre_blind, hrec, pre_at hP hKE⟩ rfl (by rw [List.length_map]; exact hn) hlv.1 rfl (lv_room hcat) hd ⟨hcs.1, hcs.2⟩) hS (fun q _ h => hF q h) hF (fun v σ' t H1 locs1 ht hvm hw hB hz hk hS1 => ?_)
  exact kk v σ' hw H1 locs1 ls hB.1 (by rw [← ht]; exact hB.2) hS1 hlv
theorem val_of {v : Int32} {r : Int32} (h : (some (vI v) : Option AV) = some (vI r)) : v = r := Sum.inl.inj (Option.some.inj h)
set_option maxHeartbeats 1000000 in
theorem op_resident (Γ : LC E p s m meth c b L xs) {j n : Nat} (hj : j + 4 ≤ L) (hJ : JI n σ) (hn : n ≤ 1000000) (hcs : cells ≤ room_1.cells ∧ slots ≤ room_1.slots) (kk : ∀ σ', JI (n + 720) σ' → LG l E p e s m below meth c b cells slots σ' 779 (nI j) []) : LG l E p e s m below meth c b cells slots σ 140 (nI j) [] := by
  refine lg_x Γ (by decide +kernel) ?_
  refine lg_arg1 Γ hj (by decide +kernel) (by decide +kernel) (by decide +kernel) (by decide +kernel) (by decide +kernel) ?_
  refine lg_call Γ (7, 0, 0) [vI (xs (j + 1))] [] vl_RL_13 mi_X4_resident (c_X4_resident l hJ.1 (xs (j + 1))) rfl rfl rfl (by decide +kernel) (okI _ rfl) rfl ⟨Nat.le_of_ble_eq_true rfl, Nat.le_of_ble_eq_true rfl⟩ (Nat.le_of_ble_eq_true rfl) hcs (by decide +kernel) rfl (fun v σ1 hw => ?_)
  obtain ⟨hv, hw⟩ := hw
  have hv := val_of hv
  have hm := j_mid hJ hw
  refine lg_m Γ (by decide +kernel) ?_
  refine lg_arg1 Γ hj (by decide +kernel) (by decide +kernel) (by decide +kernel) (by decide +kernel) (by decide +kernel) ?_
  refine lg_call Γ (8, 0, 0) [vI (xs (j + 1))] [.int v] vl_RL_17 mi_X5_resident (con_cast hm.1 (m_resident l hm.2 hn (xs (j + 1)))) rfl rfl rfl (by decide +kernel) (okI _ rfl) rfl ⟨Nat.le_of_ble_eq_true rfl, Nat.le_of_ble_eq_true rfl⟩ (Nat.le_of_ble_eq_true rfl) hcs (by decide +kernel) rfl (fun v2 σ2 hp => ?_)
  obtain ⟨hv2, hJ2⟩ := j_end (r := (xresident (habs σ 0) (hist σ) (pv σ) (xs (j + 1)))) hw hp
  exact lg_eq Γ (off := 621) (hv.trans (val_of hv2).symm) (by decide +kernel) (by decide) (kk σ2 hJ2)
set_option maxHeartbeats 1000000 in
theorem op_weigh (Γ : LC E p s m meth c b L xs) {j n : Nat} (hj : j + 4 ≤ L) (hJ : JI n σ) (hn : n ≤ 1000000) (hcs : cells ≤ room_1.cells ∧ slots ≤ room_1.slots) (kk : ∀ σ', JI (n + 720) σ' → LG l E p e s m below meth c b cells slots σ' 779 (nI j) []) : LG l E p e s m below meth c b cells slots σ 163 (nI j) [] := by
  refine lg_x Γ (by decide +kernel) ?_
  refine lg_arg1 Γ hj (by decide +kernel) (by decide +kernel) (by decide +kernel) (by decide +kernel) (by decide +kernel) ?_
  refine lg_arg2 Γ hj (by decide +kernel) (by decide +kernel) (by decide +kernel) (by decide +kernel) (by decide +kernel) ?_
  refine lg_call Γ (7, 0, 0) [vI (xs (j + 1)), vI (xs (j + 2))] [] vl_RL_18 mi_X4_weigh (c_X4_weigh l hJ.1 (xs (j + 1)) (xs (j + 2))) rfl rfl rfl (by decide +kernel) (okI _ rfl) rfl ⟨Nat.le_of_ble_eq_true rfl, Nat.le_of_ble_eq_true rfl⟩ (Nat.le_of_ble_eq_true rfl) hcs (by decide +kernel) rfl (fun v σ1 hw => ?_)
  obtain ⟨hv, hw⟩ := hw
  have hv := val_of hv
  have hm := j_mid hJ hw
  refine lg_m Γ (by decide +kernel) ?_
  refine lg_arg1 Γ hj (by decide +kernel) (by decide +kernel) (by decide +kernel) (by decide +kernel) (by decide +kernel) ?_
  refine lg_arg2 Γ hj (by decide +kernel) (by decide +kernel) (by decide +kernel) (by decide +kernel) (by decide +kernel) ?_
  refine lg_call Γ (8, 0, 0) [vI (xs (j + 1)), vI (xs (j + 2))] [.int v] vl_RL_22 mi_X5_weigh (con_cast hm.1 (m_weigh l hm.2 hn (xs (j + 1)) (xs (j + 2)))) rfl rfl rfl (by decide +kernel) (okI _ rfl) rfl ⟨Nat.le_of_ble_eq_true rfl, Nat.le_of_ble_eq_true rfl⟩ (Nat.le_of_ble_eq_true rfl) hcs (by decide +kernel) rfl (fun v2 σ2 hp => ?_)
  obtain ⟨hv2, hJ2⟩ := j_end (r := (xweigh (habs σ 0) (hist σ) (pv σ) (xs (j + 1)) (xs (j + 2)))) hw hp
  exact lg_eq Γ (off := 588) (hv.trans (val_of hv2).symm) (by decide +kernel) (by decide) (kk σ2 hJ2)
set_option maxHeartbeats 1000000 in
theorem op_away (Γ : LC E p s m meth c b L xs) {j n : Nat} (hj : j + 4 ≤ L) (hJ : JI n σ) (hn : n ≤ 1000000) (hcs : cells ≤ room_1.cells ∧ slots ≤ room_1.slots) (kk : ∀ σ', JI (n + 720) σ' → LG l E p e s m below meth c b cells slots σ' 779 (nI j) []) : LG l E p e s m below meth c b cells slots σ 196 (nI j) [] := by
  refine lg_x Γ (by decide +kernel) ?_
  refine lg_arg1 Γ hj (by decide +kernel) (by decide +kernel) (by decide +kernel) (by decide +kernel) (by decide +kernel) ?_
  refine lg_arg2 Γ hj (by decide +kernel) (by decide +kernel) (by decide +kernel) (by decide +kernel) (by decide +kernel) ?_
  refine lg_arg3 Γ hj (by decide +kernel) (by decide +kernel) (by decide +kernel) (by decide +kernel) (by decide +kernel) ?_
  refine lg_call Γ (7, 0, 0) [vI (xs (j + 1)), vI (xs (j + 2)), vI (xs (j + 3))] [] vl_RL_23 mi_X4_away (c_X4_away l hJ.1 (xs (j + 1)) (xs (j + 2)) (xs (j + 3))) rfl rfl rfl (by decide +kernel) (okI _ rfl) rfl ⟨Nat.le_of_ble_eq_true rfl, Nat.le_of_ble_eq_true rfl⟩ (Nat.le_of_ble_eq_true rfl) hcs (by decide +kernel) rfl (fun v σ1 hw => ?_)
  obtain ⟨hv, hw⟩ := hw
  have hv := val_of hv
  have hm := j_mid hJ hw
  refine lg_m Γ (by decide +kernel) ?_
  refine lg_arg1 Γ hj (by decide +kernel) (by decide +kernel) (by decide +kernel) (by decide +kernel) (by decide +kernel) ?_
  refine lg_arg2 Γ hj (by decide +kernel) (by decide +kernel) (by decide +kernel) (by decide +kernel) (by decide +kernel) ?_
  refine lg_arg3 Γ hj (by decide +kernel) (by decide +kernel) (by decide +kernel) (by decide +kernel) (by decide +kernel) ?_
  refine lg_call Γ (8, 0, 0) [vI (xs (j + 1)), vI (xs (j + 2)), vI (xs (j + 3))] [.int v] vl_RL_27 mi_X5_away (con_cast hm.1 (m_away l hm.2 hn (xs (j + 1)) (xs (j + 2)) (xs (j + 3)))) rfl rfl rfl (by decide +kernel) (okI _ rfl) rfl ⟨Nat.le_of_ble_eq_true rfl, Nat.le_of_ble_eq_true rfl⟩ (Nat.le_of_ble_eq_true rfl) hcs (by decide +kernel) rfl (fun v2 σ2 hp => ?_)
  obtain ⟨hv2, hJ2⟩ := j_end (r := (xaway (habs σ 0) (hist σ) (pv σ) (xs (j + 1)) (xs (j + 2)) (xs (j + 3)))) hw hp
  exact lg_eq Γ (off := 545) (hv.trans (val_of hv2).symm) (by decide +kernel) (by decide) (kk σ2 hJ2)
set_option maxHeartbeats 1000000 in
theorem op_area (Γ : LC E p s m meth c b L xs) {j n : Nat} (hj : j + 4 ≤ L) (hJ : JI n σ) (hn : n ≤ 1000000) (hcs : cells ≤ room_1.cells ∧ slots ≤ room_1.slots) (kk : ∀ σ', JI (n + 720) σ' → LG l E p e s m below meth c b cells slots σ' 779 (nI j) []) : LG l E p e s m below meth c b cells slots σ 239 (nI j) [] := by
  refine lg_x Γ (by decide +kernel) ?_
  refine lg_arg1 Γ hj (by decide +kernel) (by decide +kernel) (by decide +kernel) (by decide +kernel) (by decide +kernel) ?_
  refine lg_arg2 Γ hj (by decide +kernel) (by decide +kernel) (by decide +kernel) (by decide +kernel) (by decide +kernel) ?_
  refine lg_arg3 Γ hj (by decide +kernel) (by decide +kernel) (by decide +kernel) (by decide +kernel) (by decide +kernel) ?_
  refine lg_call Γ (7, 0, 0) [vI (xs (j + 1)), vI (xs (j + 2)), vI (xs (j + 3))] [] vl_RL_28 mi_X4_area (c_X4_area l hJ.1 (xs (j + 1)) (xs (j + 2)) (xs (j + 3))) rfl rfl rfl (by decide +kernel) (okI _ rfl) rfl ⟨Nat.le_of_ble_eq_true rfl, Nat.le_of_ble_eq_true rfl⟩ (Nat.le_of_ble_eq_true rfl) hcs (by decide +kernel) rfl (fun v σ1 hw => ?_)
  obtain ⟨hv, hw⟩ := hw
  have hv := val_of hv
  have hm := j_mid hJ hw
  refine lg_m Γ (by decide +kernel) ?_
  refine lg_arg1 Γ hj (by decide +kernel) (by decide +kernel) (by decide +kernel) (by decide +kernel) (by decide +kernel) ?_
  refine lg_arg2 Γ hj (by decide +kernel) (by decide +kernel) (by decide +kernel) (by decide +kernel) (by decide +kernel) ?_
  refine lg_arg3 Γ hj (by decide +kernel) (by decide +kernel) (by decide +kernel) (by decide +kernel) (by decide +kernel) ?_
  refine lg_call Γ (8, 0, 0) [vI (xs (j + 1)), vI (xs (j + 2)), vI (xs (j + 3))] [.int v] vl_RL_31 mi_X5_area (con_cast hm.1 (m_area l hm.2 hn (xs (j + 1)) (xs (j + 2)) (xs (j + 3)))) rfl rfl rfl (by decide +kernel) (okI _ rfl) rfl ⟨Nat.le_of_ble_eq_true rfl, Nat.le_of_ble_eq_true rfl⟩ (Nat.le_of_ble_eq_true rfl) hcs (by decide +kernel) rfl (fun v2 σ2 hp => ?_)
  obtain ⟨hv2, hJ2⟩ := j_end (r := (xarea (habs σ 0) (hist σ) (pv σ) (xs (j + 1)) (xs (j + 2)) (xs (j + 3)))) hw hp
  exact lg_eq Γ (off := 502) (hv.trans (val_of hv2).symm) (by decide +kernel) (by decide) (kk σ2 hJ2)
set_option maxHeartbeats 1000000 in
theorem op_set (Γ : LC E p s m meth c b L xs) {j n : Nat} (hj : j + 4 ≤ L) (hJ : JI n σ) (hn : n ≤ 1000000) (hcs : cells ≤ room_1.cells ∧ slots ≤ room_1.slots) (kk : ∀ σ', JI (n + 720) σ' → LG l E p e s m below meth c b cells slots σ' 779 (nI j) []) : LG l E p e s m below meth c b cells slots σ 282 (nI j) [] := by
  refine lg_x Γ (by decide +kernel) ?_
  refine lg_arg1 Γ hj (by decide +kernel) (by decide +kernel) (by decide +kernel) (by decide +kernel) (by decide +kernel) ?_
  refine lg_arg2 Γ hj (by decide +kernel) (by decide +kernel) (by decide +kernel) (by decide +kernel) (by decide +kernel) ?_
  refine lg_call Γ (7, 0, 0) [vI (xs (j + 1)), vI (xs (j + 2))] [] vl_RL_32 mi_X4_set (c_X4_set l hJ.1 (xs (j + 1)) (xs (j + 2))) rfl rfl rfl (by decide +kernel) (okI _ rfl) rfl ⟨Nat.le_of_ble_eq_true rfl, Nat.le_of_ble_eq_true rfl⟩ (Nat.le_of_ble_eq_true rfl) hcs (by decide +kernel) rfl (fun v σ1 hw => ?_)
  obtain ⟨hv, hw⟩ := hw
  have hv := val_of hv
  have hm := j_mid hJ hw
  refine lg_m Γ (by decide +kernel) ?_
  refine lg_arg1 Γ hj (by decide +kernel) (by decide +kernel) (by decide +kernel) (by decide +kernel) (by decide +kernel) ?_
  refine lg_arg2 Γ hj (by decide +kernel) (by decide +kernel) (by decide +kernel) (by decide +kernel) (by decide +kernel) ?_
  refine lg_call Γ (8, 0, 0) [vI (xs (j + 1)), vI (xs (j + 2))] [.int v] vl_RL_35 mi_X5_set (con_cast hm.1 (m_set l hm.2 hn (xs (j + 1)) (xs (j + 2)))) rfl rfl rfl (by decide +kernel) (okI _ rfl) rfl ⟨Nat.le_of_ble_eq_true rfl, Nat.le_of_ble_eq_true rfl⟩ (Nat.le_of_ble_eq_true rfl) hcs (by decide +kernel) rfl (fun v2 σ2 hp => ?_)
  obtain ⟨hv2, hJ2⟩ := j_end (r := (xset (habs σ 0) (hist σ) (pv σ) (xs (j + 1)) (xs (j + 2)))) hw hp
  exact lg_eq Γ (off := 469) (hv.trans (val_of hv2).symm) (by decide +kernel) (by decide) (kk σ2 hJ2)
set_option maxHeartbeats 1000000 in
theorem op_plan (Γ : LC E p s m meth c b L xs) {j n : Nat} (hj : j + 4 ≤ L) (hJ : JI n σ) (hn : n ≤ 1000000) (hcs : cells ≤ room_1.cells ∧ slots ≤ room_1.slots) (kk : ∀ σ', JI (n + 720) σ' → LG l E p e s m below meth c b cells slots σ' 779 (nI j) []) : LG l E p e s m below meth c b cells slots σ 315 (nI j) [] := by
  refine lg_x Γ (by decide +kernel) ?_
  refine lg_call Γ (7, 0, 0) [] [] vl_RL_36 mi_X4_plan (c_X4_plan l hJ.1) rfl rfl rfl (by decide +kernel) (okI _ rfl) rfl ⟨Nat.le_of_ble_eq_true rfl, Nat.le_of_ble_eq_true rfl⟩ (Nat.le_of_ble_eq_true rfl) hcs (by decide +kernel) rfl (fun v σ1 hw => ?_)
  obtain ⟨hv, hw⟩ := hw
  have hv := val_of hv
  have hm := j_mid hJ hw
  refine lg_m Γ (by decide +kernel) ?_
  refine lg_call Γ (8, 0, 0) [] [.int v] vl_RL_40 mi_X5_plan (con_cast hm.1 (m_plan l hm.2 hn)) rfl rfl rfl (by decide +kernel) (okI _ rfl) rfl ⟨Nat.le_of_ble_eq_true rfl, Nat.le_of_ble_eq_true rfl⟩ (Nat.le_of_ble_eq_true rfl) hcs (by decide +kernel) rfl (fun v2 σ2 hp => ?_)
  obtain ⟨hv2, hJ2⟩ := j_end (r := (xplan (habs σ 0) (hist σ) (pv σ))) hw hp
  exact lg_eq Γ (off := 456) (hv.trans (val_of hv2).symm) (by decide +kernel) (by decide) (kk σ2 hJ2)
set_option maxHeartbeats 1000000 in
theorem op_done (Γ : LC E p s m meth c b L xs) {j n : Nat} (hj : j + 4 ≤ L) (hJ : JI n σ) (hn : n ≤ 1000000) (hcs : cells ≤ room_1.cells ∧ slots ≤ room_1.slots) (kk : ∀ σ', JI (n + 720) σ' → LG l E p e s m below meth c b cells slots σ' 779 (nI j) []) : LG l E p e s m below meth c b cells slots σ 328 (nI j) [] := by
  refine lg_x Γ (by decide +kernel) ?_
  refine lg_arg1 Γ hj (by decide +kernel) (by decide +kernel) (by decide +kernel) (by decide +kernel) (by decide +kernel) ?_
  refine lg_call Γ (7, 0, 0) [vI (xs (j + 1))] [] vl_RL_41 mi_X4_done (c_X4_done l hJ.1 (xs (j + 1))) rfl rfl rfl (by decide +kernel) (okI _ rfl) rfl ⟨Nat.le_of_ble_eq_true rfl, Nat.le_of_ble_eq_true rfl⟩ (Nat.le_of_ble_eq_true rfl) hcs (by decide +kernel) rfl (fun v σ1 hw => ?_)
  obtain ⟨hv, hw⟩ := hw
  have hv := val_of hv
  have hm := j_mid hJ hw
  refine lg_m Γ (by decide +kernel) ?_
  refine lg_arg1 Γ hj (by decide +kernel) (by decide +kernel) (by decide +kernel) (by decide +kernel) (by decide +kernel) ?_
  refine lg_call Γ (8, 0, 0) [vI (xs (j + 1))] [.int v] vl_RL_44 mi_X5_done (con_cast hm.1 (m_done l hm.2 hn (xs (j + 1)))) rfl rfl rfl (by decide +kernel) (okI _ rfl) rfl ⟨Nat.le_of_ble_eq_true rfl, Nat.le_of_ble_eq_true rfl⟩ (Nat.le_of_ble_eq_true rfl) hcs (by decide +kernel) rfl (fun v2 σ2 hp => ?_)
  obtain ⟨hv2, hJ2⟩ := j_end (r := (xdone (habs σ 0) (hist σ) (pv σ) (xs (j + 1)))) hw hp
  exact lg_eq Γ (off := 433) (hv.trans (val_of hv2).symm) (by decide +kernel) (by decide) (kk σ2 hJ2)
set_option maxHeartbeats 1000000 in
theorem op_extra (Γ : LC E p s m meth c b L xs) {j n : Nat} (hj : j + 4 ≤ L) (hJ : JI n σ) (hn : n ≤ 1000000) (hcs : cells ≤ room_1.cells ∧ slots ≤ room_1.slots) (kk : ∀ σ', JI (n + 720) σ' → LG l E p e s m below meth c b cells slots σ' 779 (nI j) []) : LG l E p e s m below meth c b cells slots σ 351 (nI j) [] := by
  refine lg_x Γ (by decide +kernel) ?_
  refine lg_arg1 Γ hj (by decide +kernel) (by decide +kernel) (by decide +kernel) (by decide +kernel) (by decide +kernel) ?_
  refine lg_arg2 Γ hj (by decide +kernel) (by decide +kernel) (by decide +kernel) (by decide +kernel) (by decide +kernel) ?_
  refine lg_call Γ (7, 0, 0) [vI (xs (j + 1)), vI (xs (j + 2))] [] vl_RL_45 mi_X4_extra (c_X4_extra l hJ.1 (xs (j + 1)) (xs (j + 2))) rfl rfl rfl (by decide +kernel) (okI _ rfl) rfl ⟨Nat.le_of_ble_eq_true rfl, Nat.le_of_ble_eq_true rfl⟩ (Nat.le_of_ble_eq_true rfl) hcs (by decide +kernel) rfl (fun v σ1 hw => ?_)
  obtain ⟨hv, hw⟩ := hw
  have hv := val_of hv
  have hm := j_mid hJ hw
  refine lg_m Γ (by decide +kernel) ?_
  refine lg_arg1 Γ hj (by decide +kernel) (by decide +kernel) (by decide +kernel) (by decide +kernel) (by decide +kernel) ?_
  refine lg_arg2 Γ hj (by decide +kernel) (by decide +kernel) (by decide +kernel) (by decide +kernel) (by decide +kernel) ?_
  refine lg_call Γ (8, 0, 0) [vI (xs (j + 1)), vI (xs (j + 2))] [.int v] vl_RL_48 mi_X5_extra (con_cast hm.1 (m_extra l hm.2 hn (xs (j + 1)) (xs (j + 2)))) rfl rfl rfl (by decide +kernel) (okI _ rfl) rfl ⟨Nat.le_of_ble_eq_true rfl, Nat.le_of_ble_eq_true rfl⟩ (Nat.le_of_ble_eq_true rfl) hcs (by decide +kernel) rfl (fun v2 σ2 hp => ?_)
  obtain ⟨hv2, hJ2⟩ := j_end (r := (xextra (habs σ 0) (hist σ) (pv σ) (xs (j + 1)) (xs (j + 2)))) hw hp
  exact lg_eq Γ (off := 400) (hv.trans (val_of hv2).symm) (by decide +kernel) (by decide) (kk σ2 hJ2)
set_option maxHeartbeats 1000000 in
theorem op_end (Γ : LC E p s m meth c b L xs) {j n : Nat} (hj : j + 4 ≤ L) (hJ : JI n σ) (hn : n ≤ 1000000) (hcs : cells ≤ room_1.cells ∧ slots ≤ room_1.slots) (kk : ∀ σ', JI (n + 720) σ' → LG l E p e s m below meth c b cells slots σ' 779 (nI j) []) : LG l E p e s m below meth c b cells slots σ 384 (nI j) [] := by
  refine lg_x Γ (by decide +kernel) ?_
  refine lg_call Γ (7, 0, 0) [] [] vl_RL_49 mi_X4_end (c_X4_end l hJ.1) rfl rfl rfl (by decide +kernel) (okI _ rfl) rfl ⟨Nat.le_of_ble_eq_true rfl, Nat.le_of_ble_eq_true rfl⟩ (Nat.le_of_ble_eq_true rfl) hcs (by decide +kernel) rfl (fun v σ1 hw => ?_)
  obtain ⟨hv, hw⟩ := hw
  have hv := val_of hv
  have hm := j_mid hJ hw
  refine lg_m Γ (by decide +kernel) ?_
  refine lg_call Γ (8, 0, 0) [] [.int v] vl_RL_52 mi_X5_end (con_cast hm.1 (m_end l hm.2 hn)) rfl rfl rfl (by decide +kernel) (okI _ rfl) rfl ⟨Nat.le_of_ble_eq_true rfl, Nat.le_of_ble_eq_true rfl⟩ (Nat.le_of_ble_eq_true rfl) hcs (by decide +kernel) rfl (fun v2 σ2 hp => ?_)
  obtain ⟨hv2, hJ2⟩ := j_end (r := (xend (habs σ 0) (hist σ) (pv σ))) hw hp
  exact lg_eq Γ (off := 387) (hv.trans (val_of hv2).symm) (by decide +kernel) (by decide) (kk σ2 hJ2)
set_option maxHeartbeats 1000000 in
theorem op_propose (Γ : LC E p s m meth c b L xs) {j n : Nat} (hj : j + 4 ≤ L) (hJ : JI n σ) (hn : n ≤ 1000000) (hcs : cells ≤ room_1.cells ∧ slots ≤ room_1.slots) (kk : ∀ σ', JI (n + 720) σ' → LG l E p e s m below meth c b cells slots σ' 779 (nI j) []) : LG l E p e s m below meth c b cells slots σ 397 (nI j) [] := by
  refine lg_x Γ (by decide +kernel) ?_
  refine lg_arg1 Γ hj (by decide +kernel) (by decide +kernel) (by decide +kernel) (by decide +kernel) (by decide +kernel) ?_
  refine lg_arg2 Γ hj (by decide +kernel) (by decide +kernel) (by decide +kernel) (by decide +kernel) (by decide +kernel) ?_
  refine lg_call Γ (7, 0, 0) [vI (xs (j + 1)), vI (xs (j + 2))] [] vl_RL_53 mi_X4_propose (c_X4_propose l hJ.1 (xs (j + 1)) (xs (j + 2))) rfl rfl rfl (by decide +kernel) (okI _ rfl) rfl ⟨Nat.le_of_ble_eq_true rfl, Nat.le_of_ble_eq_true rfl⟩ (Nat.le_of_ble_eq_true rfl) hcs (by decide +kernel) rfl (fun v σ1 hw => ?_)
  obtain ⟨hv, hw⟩ := hw
  have hv := val_of hv
  have hm := j_mid hJ hw
  refine lg_m Γ (by decide +kernel) ?_
  refine lg_arg1 Γ hj (by decide +kernel) (by decide +kernel) (by decide +kernel) (by decide +kernel) (by decide +kernel) ?_
  refine lg_arg2 Γ hj (by decide +kernel) (by decide +kernel) (by decide +kernel) (by decide +kernel) (by decide +kernel) ?_
  refine lg_call Γ (8, 0, 0) [vI (xs (j + 1)), vI (xs (j + 2))] [.int v] vl_RL_56 mi_X5_propose (con_cast hm.1 (m_propose l hm.2 hn (xs (j + 1)) (xs (j + 2)))) rfl rfl rfl (by decide +kernel) (okI _ rfl) rfl ⟨Nat.le_of_ble_eq_true rfl, Nat.le_of_ble_eq_true rfl⟩ (Nat.le_of_ble_eq_true rfl) hcs (by decide +kernel) rfl (fun v2 σ2 hp => ?_)
  obtain ⟨hv2, hJ2⟩ := j_end (r := (xpropose (habs σ 0) (hist σ) (pv σ) (xs (j + 1)) (xs (j + 2)))) hw hp
  exact lg_eq Γ (off := 354) (hv.trans (val_of hv2).symm) (by decide +kernel) (by decide) (kk σ2 hJ2)
set_option maxHeartbeats 1000000 in
theorem op_answer (Γ : LC E p s m meth c b L xs) {j n : Nat} (hj : j + 4 ≤ L) (hJ : JI n σ) (hn : n ≤ 1000000) (hcs : cells ≤ room_1.cells ∧ slots ≤ room_1.slots) (kk : ∀ σ', JI (n + 720) σ' → LG l E p e s m below meth c b cells slots σ' 779 (nI j) []) : LG l E p e s m below meth c b cells slots σ 430 (nI j) [] := by
  refine lg_x Γ (by decide +kernel) ?_
  refine lg_arg1 Γ hj (by decide +kernel) (by decide +kernel) (by decide +kernel) (by decide +kernel) (by decide +kernel) ?_
  refine lg_arg2 Γ hj (by decide +kernel) (by decide +kernel) (by decide +kernel) (by decide +kernel) (by decide +kernel) ?_
  refine lg_call Γ (7, 0, 0) [vI (xs (j + 1)), vI (xs (j + 2))] [] vl_RL_57 mi_X4_answer (c_X4_answer l hJ.1 (xs (j + 1)) (xs (j + 2))) rfl rfl rfl (by decide +kernel) (okI _ rfl) rfl ⟨Nat.le_of_ble_eq_true rfl, Nat.le_of_ble_eq_true rfl⟩ (Nat.le_of_ble_eq_true rfl) hcs (by decide +kernel) rfl (fun v σ1 hw => ?_)
  obtain ⟨hv, hw⟩ := hw
  have hv := val_of hv
  have hm := j_mid hJ hw
  refine lg_m Γ (by decide +kernel) ?_
  refine lg_arg1 Γ hj (by decide +kernel) (by decide +kernel) (by decide +kernel) (by decide +kernel) (by decide +kernel) ?_
  refine lg_arg2 Γ hj (by decide +kernel) (by decide +kernel) (by decide +kernel) (by decide +kernel) (by decide +kernel) ?_
  refine lg_call Γ (8, 0, 0) [vI (xs (j + 1)), vI (xs (j + 2))] [.int v] vl_RL_60 mi_X5_answer (con_cast hm.1 (m_answer l hm.2 hn (xs (j + 1)) (xs (j + 2)))) rfl rfl rfl (by decide +kernel) (okI _ rfl) rfl ⟨Nat.le_of_ble_eq_true rfl, Nat.le_of_ble_eq_true rfl⟩ (Nat.le_of_ble_eq_true rfl) hcs (by decide +kernel) rfl (fun v2 σ2 hp => ?_)
  obtain ⟨hv2, hJ2⟩ := j_end (r := (xanswer (habs σ 0) (hist σ) (pv σ) (xs (j + 1)) (xs (j + 2)))) hw hp
  exact lg_eq Γ (off := 321) (hv.trans (val_of hv2).symm) (by decide +kernel) (by decide) (kk σ2 hJ2)
set_option maxHeartbeats 1000000 in
theorem op_about (Γ : LC E p s m meth c b L xs) {j n : Nat} (hj : j + 4 ≤ L) (hJ : JI n σ) (hn : n ≤ 1000000) (hcs : cells ≤ room_1.cells ∧ slots ≤ room_1.slots) (kk : ∀ σ', JI (n + 720) σ' → LG l E p e s m below meth c b cells slots σ' 779 (nI j) []) : LG l E p e s m below meth c b cells slots σ 463 (nI j) [] := by
  refine lg_x Γ (by decide +kernel) ?_
  refine lg_arg1 Γ hj (by decide +kernel) (by decide +kernel) (by decide +kernel) (by decide +kernel) (by decide +kernel) ?_
  refine lg_arg2 Γ hj (by decide +kernel) (by decide +kernel) (by decide +kernel) (by decide +kernel) (by decide +kernel) ?_
  refine lg_call Γ (7, 0, 0) [vI (xs (j + 1)), vI (xs (j + 2))] [] vl_RL_61 mi_X4_about (con_pure hJ.1 (c_X4_about l hJ.1 (xs (j + 1)) (xs (j + 2)))) rfl rfl rfl (by decide +kernel) (okI _ rfl) rfl ⟨Nat.le_of_ble_eq_true rfl, Nat.le_of_ble_eq_true rfl⟩ (Nat.le_of_ble_eq_true rfl) hcs (by decide +kernel) rfl (fun v σ1 hw => ?_)
  obtain ⟨hv, hw⟩ := hw
  have hv := val_of hv
  have hm := j_mid hJ hw
  refine lg_m Γ (by decide +kernel) ?_
  refine lg_arg1 Γ hj (by decide +kernel) (by decide +kernel) (by decide +kernel) (by decide +kernel) (by decide +kernel) ?_
  refine lg_arg2 Γ hj (by decide +kernel) (by decide +kernel) (by decide +kernel) (by decide +kernel) (by decide +kernel) ?_
  refine lg_call Γ (8, 0, 0) [vI (xs (j + 1)), vI (xs (j + 2))] [.int v] vl_RL_64 mi_X5_about (con_cast hm.1 (m_about l hm.2 hn (xs (j + 1)) (xs (j + 2)))) rfl rfl rfl (by decide +kernel) (okI _ rfl) rfl ⟨Nat.le_of_ble_eq_true rfl, Nat.le_of_ble_eq_true rfl⟩ (Nat.le_of_ble_eq_true rfl) hcs (by decide +kernel) rfl (fun v2 σ2 hp => ?_)
  obtain ⟨hv2, hJ2⟩ := j_end (r := (xabout (habs σ 0) (xs (j + 1)) (xs (j + 2)), ((habs σ 0, (hist σ, pv σ)) : XS))) hw hp
  exact lg_eq Γ (off := 288) (hv.trans (val_of hv2).symm) (by decide +kernel) (by decide) (kk σ2 hJ2)
set_option maxHeartbeats 1000000 in
theorem op_room (Γ : LC E p s m meth c b L xs) {j n : Nat} (hj : j + 4 ≤ L) (hJ : JI n σ) (hn : n ≤ 1000000) (hcs : cells ≤ room_1.cells ∧ slots ≤ room_1.slots) (kk : ∀ σ', JI (n + 720) σ' → LG l E p e s m below meth c b cells slots σ' 779 (nI j) []) : LG l E p e s m below meth c b cells slots σ 496 (nI j) [] := by
  refine lg_x Γ (by decide +kernel) ?_
  refine lg_arg1 Γ hj (by decide +kernel) (by decide +kernel) (by decide +kernel) (by decide +kernel) (by decide +kernel) ?_
  refine lg_arg2 Γ hj (by decide +kernel) (by decide +kernel) (by decide +kernel) (by decide +kernel) (by decide +kernel) ?_
  refine lg_call Γ (7, 0, 0) [vI (xs (j + 1)), vI (xs (j + 2))] [] vl_RL_65 mi_X4_room (con_pure hJ.1 (c_X4_room l hJ.1 (xs (j + 1)) (xs (j + 2)))) rfl rfl rfl (by decide +kernel) (okI _ rfl) rfl ⟨Nat.le_of_ble_eq_true rfl, Nat.le_of_ble_eq_true rfl⟩ (Nat.le_of_ble_eq_true rfl) hcs (by decide +kernel) rfl (fun v σ1 hw => ?_)
  obtain ⟨hv, hw⟩ := hw
  have hv := val_of hv
  have hm := j_mid hJ hw
  refine lg_m Γ (by decide +kernel) ?_
  refine lg_arg1 Γ hj (by decide +kernel) (by decide +kernel) (by decide +kernel) (by decide +kernel) (by decide +kernel) ?_
  refine lg_arg2 Γ hj (by decide +kernel) (by decide +kernel) (by decide +kernel) (by decide +kernel) (by decide +kernel) ?_
  refine lg_call Γ (8, 0, 0) [vI (xs (j + 1)), vI (xs (j + 2))] [.int v] vl_RL_68 mi_X5_room (con_cast hm.1 (m_room l hm.2 hn (xs (j + 1)) (xs (j + 2)))) rfl rfl rfl (by decide +kernel) (okI _ rfl) rfl ⟨Nat.le_of_ble_eq_true rfl, Nat.le_of_ble_eq_true rfl⟩ (Nat.le_of_ble_eq_true rfl) hcs (by decide +kernel) rfl (fun v2 σ2 hp => ?_)
  obtain ⟨hv2, hJ2⟩ := j_end (r := (xroom (habs σ 0) (xs (j + 1)) (xs (j + 2)), ((habs σ 0, (hist σ, pv σ)) : XS))) hw hp
  exact lg_eq Γ (off := 255) (hv.trans (val_of hv2).symm) (by decide +kernel) (by decide) (kk σ2 hJ2)
set_option maxHeartbeats 1000000 in
theorem op_task (Γ : LC E p s m meth c b L xs) {j n : Nat} (hj : j + 4 ≤ L) (hJ : JI n σ) (hn : n ≤ 1000000) (hcs : cells ≤ room_1.cells ∧ slots ≤ room_1.slots) (kk : ∀ σ', JI (n + 720) σ' → LG l E p e s m below meth c b cells slots σ' 779 (nI j) []) : LG l E p e s m below meth c b cells slots σ 529 (nI j) [] := by
  refine lg_x Γ (by decide +kernel) ?_
  refine lg_arg1 Γ hj (by decide +kernel) (by decide +kernel) (by decide +kernel) (by decide +kernel) (by decide +kernel) ?_
  refine lg_arg2 Γ hj (by decide +kernel) (by decide +kernel) (by decide +kernel) (by decide +kernel) (by decide +kernel) ?_
  refine lg_call Γ (7, 0, 0) [vI (xs (j + 1)), vI (xs (j + 2))] [] vl_RL_69 mi_X4_task (con_pure hJ.1 (c_X4_task l hJ.1 (xs (j + 1)) (xs (j + 2)))) rfl rfl rfl (by decide +kernel) (okI _ rfl) rfl ⟨Nat.le_of_ble_eq_true rfl, Nat.le_of_ble_eq_true rfl⟩ (Nat.le_of_ble_eq_true rfl) hcs (by decide +kernel) rfl (fun v σ1 hw => ?_)
  obtain ⟨hv, hw⟩ := hw
  have hv := val_of hv
  have hm := j_mid hJ hw
  refine lg_m Γ (by decide +kernel) ?_
  refine lg_arg1 Γ hj (by decide +kernel) (by decide +kernel) (by decide +kernel) (by decide +kernel) (by decide +kernel) ?_
  refine lg_arg2 Γ hj (by decide +kernel) (by decide +kernel) (by decide +kernel) (by decide +kernel) (by decide +kernel) ?_
  refine lg_call Γ (8, 0, 0) [vI (xs (j + 1)), vI (xs (j + 2))] [.int v] vl_RL_72 mi_X5_task (con_cast hm.1 (m_task l hm.2 hn (xs (j + 1)) (xs (j + 2)))) rfl rfl rfl (by decide +kernel) (okI _ rfl) rfl ⟨Nat.le_of_ble_eq_true rfl, Nat.le_of_ble_eq_true rfl⟩ (Nat.le_of_ble_eq_true rfl) hcs (by decide +kernel) rfl (fun v2 σ2 hp => ?_)
  obtain ⟨hv2, hJ2⟩ := j_end (r := (xtask (habs σ 0) (xs (j + 1)) (xs (j + 2)), ((habs σ 0, (hist σ, pv σ)) : XS))) hw hp
  exact lg_eq Γ (off := 222) (hv.trans (val_of hv2).symm) (by decide +kernel) (by decide) (kk σ2 hJ2)
set_option maxHeartbeats 1000000 in
theorem op_swap (Γ : LC E p s m meth c b L xs) {j n : Nat} (hj : j + 4 ≤ L) (hJ : JI n σ) (hn : n ≤ 1000000) (hcs : cells ≤ room_1.cells ∧ slots ≤ room_1.slots) (kk : ∀ σ', JI (n + 720) σ' → LG l E p e s m below meth c b cells slots σ' 779 (nI j) []) : LG l E p e s m below meth c b cells slots σ 562 (nI j) [] := by
  refine lg_x Γ (by decide +kernel) ?_
  refine lg_arg1 Γ hj (by decide +kernel) (by decide +kernel) (by decide +kernel) (by decide +kernel) (by decide +kernel) ?_
  refine lg_arg2 Γ hj (by decide +kernel) (by decide +kernel) (by decide +kernel) (by decide +kernel) (by decide +kernel) ?_
  refine lg_call Γ (7, 0, 0) [vI (xs (j + 1)), vI (xs (j + 2))] [] vl_RL_73 mi_X4_swap (con_pure hJ.1 (c_X4_swap l hJ.1 (xs (j + 1)) (xs (j + 2)))) rfl rfl rfl (by decide +kernel) (okI _ rfl) rfl ⟨Nat.le_of_ble_eq_true rfl, Nat.le_of_ble_eq_true rfl⟩ (Nat.le_of_ble_eq_true rfl) hcs (by decide +kernel) rfl (fun v σ1 hw => ?_)
  obtain ⟨hv, hw⟩ := hw
  have hv := val_of hv
  have hm := j_mid hJ hw
  refine lg_m Γ (by decide +kernel) ?_
  refine lg_arg1 Γ hj (by decide +kernel) (by decide +kernel) (by decide +kernel) (by decide +kernel) (by decide +kernel) ?_
  refine lg_arg2 Γ hj (by decide +kernel) (by decide +kernel) (by decide +kernel) (by decide +kernel) (by decide +kernel) ?_
  refine lg_call Γ (8, 0, 0) [vI (xs (j + 1)), vI (xs (j + 2))] [.int v] vl_RL_76 mi_X5_swap (con_cast hm.1 (m_swap l hm.2 hn (xs (j + 1)) (xs (j + 2)))) rfl rfl rfl (by decide +kernel) (okI _ rfl) rfl ⟨Nat.le_of_ble_eq_true rfl, Nat.le_of_ble_eq_true rfl⟩ (Nat.le_of_ble_eq_true rfl) hcs (by decide +kernel) rfl (fun v2 σ2 hp => ?_)
  obtain ⟨hv2, hJ2⟩ := j_end (r := (xswap (habs σ 0) (xs (j + 1)) (xs (j + 2)), ((habs σ 0, (hist σ, pv σ)) : XS))) hw hp
  exact lg_eq Γ (off := 189) (hv.trans (val_of hv2).symm) (by decide +kernel) (by decide) (kk σ2 hJ2)
set_option maxHeartbeats 1000000 in
theorem op_count (Γ : LC E p s m meth c b L xs) {j n : Nat} (hj : j + 4 ≤ L) (hJ : JI n σ) (hn : n ≤ 1000000) (hcs : cells ≤ room_1.cells ∧ slots ≤ room_1.slots) (kk : ∀ σ', JI (n + 720) σ' → LG l E p e s m below meth c b cells slots σ' 779 (nI j) []) : LG l E p e s m below meth c b cells slots σ 595 (nI j) [] := by
  refine lg_x Γ (by decide +kernel) ?_
  refine lg_arg1 Γ hj (by decide +kernel) (by decide +kernel) (by decide +kernel) (by decide +kernel) (by decide +kernel) ?_
  refine lg_call Γ (7, 0, 0) [vI (xs (j + 1))] [] vl_RL_77 mi_X4_count (con_pure hJ.1 (c_X4_count l hJ.1 (xs (j + 1)))) rfl rfl rfl (by decide +kernel) (okI _ rfl) rfl ⟨Nat.le_of_ble_eq_true rfl, Nat.le_of_ble_eq_true rfl⟩ (Nat.le_of_ble_eq_true rfl) hcs (by decide +kernel) rfl (fun v σ1 hw => ?_)
  obtain ⟨hv, hw⟩ := hw
  have hv := val_of hv
  have hm := j_mid hJ hw
  refine lg_m Γ (by decide +kernel) ?_
  refine lg_arg1 Γ hj (by decide +kernel) (by decide +kernel) (by decide +kernel) (by decide +kernel) (by decide +kernel) ?_
  refine lg_call Γ (8, 0, 0) [vI (xs (j + 1))] [.int v] vl_RL_80 mi_X5_count (con_cast hm.1 (m_count l hm.2 hn (xs (j + 1)))) rfl rfl rfl (by decide +kernel) (okI _ rfl) rfl ⟨Nat.le_of_ble_eq_true rfl, Nat.le_of_ble_eq_true rfl⟩ (Nat.le_of_ble_eq_true rfl) hcs (by decide +kernel) rfl (fun v2 σ2 hp => ?_)
  obtain ⟨hv2, hJ2⟩ := j_end (r := (xcount (habs σ 0) (hist σ) (pv σ) (xs (j + 1)), ((habs σ 0, (hist σ, pv σ)) : XS))) hw hp
  exact lg_eq Γ (off := 166) (hv.trans (val_of hv2).symm) (by decide +kernel) (by decide) (kk σ2 hJ2)
set_option maxHeartbeats 1000000 in
theorem op_forecast (Γ : LC E p s m meth c b L xs) {j n : Nat} (hj : j + 4 ≤ L) (hJ : JI n σ) (hn : n ≤ 1000000) (hcs : cells ≤ room_1.cells ∧ slots ≤ room_1.slots) (kk : ∀ σ', JI (n + 720) σ' → LG l E p e s m below meth c b cells slots σ' 779 (nI j) []) : LG l E p e s m below meth c b cells slots σ 618 (nI j) [] := by
  refine lg_x Γ (by decide +kernel) ?_
  refine lg_arg1 Γ hj (by decide +kernel) (by decide +kernel) (by decide +kernel) (by decide +kernel) (by decide +kernel) ?_
  refine lg_arg2 Γ hj (by decide +kernel) (by decide +kernel) (by decide +kernel) (by decide +kernel) (by decide +kernel) ?_
  refine lg_call Γ (7, 0, 0) [vI (xs (j + 1)), vI (xs (j + 2))] [] vl_RL_81 mi_X4_forecast (c_X4_forecast l (xs (j + 1)) (xs (j + 2)) hJ.1) rfl rfl rfl (by decide +kernel) (okI _ rfl) rfl ⟨Nat.le_of_ble_eq_true rfl, Nat.le_of_ble_eq_true rfl⟩ (Nat.le_of_ble_eq_true rfl) hcs (by decide +kernel) rfl (fun v σ1 hw => ?_)
  obtain ⟨hv, hw⟩ := hw
  have hv := val_of hv
  have hm := j_mid hJ hw
  refine lg_m Γ (by decide +kernel) ?_
  refine lg_arg1 Γ hj (by decide +kernel) (by decide +kernel) (by decide +kernel) (by decide +kernel) (by decide +kernel) ?_
  refine lg_arg2 Γ hj (by decide +kernel) (by decide +kernel) (by decide +kernel) (by decide +kernel) (by decide +kernel) ?_
  refine lg_call Γ (8, 0, 0) [vI (xs (j + 1)), vI (xs (j + 2))] [.int v] vl_RL_84 mi_X5_forecast (con_cast hm.1 (m_forecast l hm.2 hn (xs (j + 1)) (xs (j + 2)))) rfl rfl rfl (by decide +kernel) (okI _ rfl) rfl ⟨Nat.le_of_ble_eq_true rfl, Nat.le_of_ble_eq_true rfl⟩ (Nat.le_of_ble_eq_true rfl) hcs (by decide +kernel) rfl (fun v2 σ2 hp => ?_)
  obtain ⟨hv2, hJ2⟩ := j_end (r := (xforecast (habs σ 0) (xs (j + 1)) (xs (j + 2)), ((habs σ 0, (hist σ, pv σ)) : XS))) hw hp
  exact lg_eq Γ (off := 133) (hv.trans (val_of hv2).symm) (by decide +kernel) (by decide) (kk σ2 hJ2)
set_option maxHeartbeats 1000000 in
theorem op_fairer (Γ : LC E p s m meth c b L xs) {j n : Nat} (hj : j + 4 ≤ L) (hJ : JI n σ) (hn : n ≤ 1000000) (hcs : cells ≤ room_1.cells ∧ slots ≤ room_1.slots) (kk : ∀ σ', JI (n + 720) σ' → LG l E p e s m below meth c b cells slots σ' 779 (nI j) []) : LG l E p e s m below meth c b cells slots σ 651 (nI j) [] := by
  refine lg_x Γ (by decide +kernel) ?_
  refine lg_arg1 Γ hj (by decide +kernel) (by decide +kernel) (by decide +kernel) (by decide +kernel) (by decide +kernel) ?_
  refine lg_call Γ (7, 0, 0) [vI (xs (j + 1))] [] vl_RL_85 mi_X4_fairer (con_pure hJ.1 (c_X4_fairer l hJ.1 (xs (j + 1)))) rfl rfl rfl (by decide +kernel) (okI _ rfl) rfl ⟨Nat.le_of_ble_eq_true rfl, Nat.le_of_ble_eq_true rfl⟩ (Nat.le_of_ble_eq_true rfl) hcs (by decide +kernel) rfl (fun v σ1 hw => ?_)
  obtain ⟨hv, hw⟩ := hw
  have hv := val_of hv
  have hm := j_mid hJ hw
  refine lg_m Γ (by decide +kernel) ?_
  refine lg_arg1 Γ hj (by decide +kernel) (by decide +kernel) (by decide +kernel) (by decide +kernel) (by decide +kernel) ?_
  refine lg_call Γ (8, 0, 0) [vI (xs (j + 1))] [.int v] vl_RL_88 mi_X5_fairer (con_cast hm.1 (m_fairer l hm.2 hn (xs (j + 1)))) rfl rfl rfl (by decide +kernel) (okI _ rfl) rfl ⟨Nat.le_of_ble_eq_true rfl, Nat.le_of_ble_eq_true rfl⟩ (Nat.le_of_ble_eq_true rfl) hcs (by decide +kernel) rfl (fun v2 σ2 hp => ?_)
  obtain ⟨hv2, hJ2⟩ := j_end (r := (xfairer (habs σ 0) (xs (j + 1)), ((habs σ 0, (hist σ, pv σ)) : XS))) hw hp
  exact lg_eq Γ (off := 110) (hv.trans (val_of hv2).symm) (by decide +kernel) (by decide) (kk σ2 hJ2)
set_option maxHeartbeats 1000000 in
theorem op_put (Γ : LC E p s m meth c b L xs) {j n : Nat} (hj : j + 4 ≤ L) (hJ : JI n σ) (hn : n ≤ 1000000) (hcs : cells ≤ room_1.cells ∧ slots ≤ room_1.slots) (kk : ∀ σ', JI (n + 720) σ' → LG l E p e s m below meth c b cells slots σ' 779 (nI j) []) : LG l E p e s m below meth c b cells slots σ 674 (nI j) [] := by
  refine lg_x Γ (by decide +kernel) ?_
  refine lg_arg1 Γ hj (by decide +kernel) (by decide +kernel) (by decide +kernel) (by decide +kernel) (by decide +kernel) ?_
  refine lg_i2l Γ (by decide +kernel) ?_
  refine lg_bi32 Γ (by decide +kernel) ?_
  refine lg_lshl Γ (by decide +kernel) ?_
  refine lg_arg2 Γ hj (by decide +kernel) (by decide +kernel) (by decide +kernel) (by decide +kernel) (by decide +kernel) ?_
  refine lg_i2l Γ (by decide +kernel) ?_
  refine lg_ldc Γ (by decide +kernel) ?_
  refine lg_land Γ (by decide +kernel) ?_
  refine lg_lor Γ (by decide +kernel) ?_
  refine lg_call Γ (7, 0, 0) [vL (((xs (j + 1)).toInt64 <<< ((32 : Int32).toInt64 &&& 63)) ||| ((xs (j + 2)).toInt64 &&& 4294967295))] [] vl_RL_91 mi_X4_put (c_X4_put l hJ.1) rfl rfl rfl (by decide +kernel) (okI _ rfl) rfl ⟨Nat.le_of_ble_eq_true rfl, Nat.le_of_ble_eq_true rfl⟩ (Nat.le_of_ble_eq_true rfl) hcs (by decide +kernel) rfl (fun v σ1 hw => ?_)
  obtain ⟨hv, hw⟩ := hw
  have hv := val_of hv
  have hm := j_mid hJ hw
  refine lg_m Γ (by decide +kernel) ?_
  refine lg_arg1 Γ hj (by decide +kernel) (by decide +kernel) (by decide +kernel) (by decide +kernel) (by decide +kernel) ?_
  refine lg_i2l Γ (by decide +kernel) ?_
  refine lg_bi32 Γ (by decide +kernel) ?_
  refine lg_lshl Γ (by decide +kernel) ?_
  refine lg_arg2 Γ hj (by decide +kernel) (by decide +kernel) (by decide +kernel) (by decide +kernel) (by decide +kernel) ?_
  refine lg_i2l Γ (by decide +kernel) ?_
  refine lg_ldc Γ (by decide +kernel) ?_
  refine lg_land Γ (by decide +kernel) ?_
  refine lg_lor Γ (by decide +kernel) ?_
  refine lg_call Γ (8, 0, 0) [vL (((xs (j + 1)).toInt64 <<< ((32 : Int32).toInt64 &&& 63)) ||| ((xs (j + 2)).toInt64 &&& 4294967295))] [.int v] vl_RL_95 mi_X5_put (con_cast hm.1 (m_put l hm.2 hn (((xs (j + 1)).toInt64 <<< ((32 : Int32).toInt64 &&& 63)) ||| ((xs (j + 2)).toInt64 &&& 4294967295)))) rfl rfl rfl (by decide +kernel) (okI _ rfl) rfl ⟨Nat.le_of_ble_eq_true rfl, Nat.le_of_ble_eq_true rfl⟩ (Nat.le_of_ble_eq_true rfl) hcs (by decide +kernel) rfl (fun v2 σ2 hp => ?_)
  obtain ⟨hv2, hJ2⟩ := j_end (r := (xput (habs σ 0) (hist σ) (pv σ) (((xs (j + 1)).toInt64 <<< ((32 : Int32).toInt64 &&& 63)) ||| ((xs (j + 2)).toInt64 &&& 4294967295)))) hw hp
  exact lg_eq Γ (off := 57) (hv.trans (val_of hv2).symm) (by decide +kernel) (by decide) (kk σ2 hJ2)
set_option maxHeartbeats 1000000 in
theorem op_wipe (Γ : LC E p s m meth c b L xs) {j n : Nat} (hj : j + 4 ≤ L) (hJ : JI n σ) (hn : n ≤ 1000000) (hcs : cells ≤ room_1.cells ∧ slots ≤ room_1.slots) (kk : ∀ σ', JI (n + 720) σ' → LG l E p e s m below meth c b cells slots σ' 779 (nI j) []) : LG l E p e s m below meth c b cells slots σ 727 (nI j) [] := by
  refine lg_x Γ (by decide +kernel) ?_
  refine lg_call Γ (7, 0, 0) [] [] vl_RL_96 mi_X4_wipe (c_X4_wipe l hJ.1) rfl rfl rfl (by decide +kernel) (okI _ rfl) rfl ⟨Nat.le_of_ble_eq_true rfl, Nat.le_of_ble_eq_true rfl⟩ (Nat.le_of_ble_eq_true rfl) hcs (by decide +kernel) rfl (fun v σ1 hw => ?_)
  obtain ⟨hv, hw⟩ := hw
  have hv := val_of hv
  have hm := j_mid hJ hw
  refine lg_m Γ (by decide +kernel) ?_
  refine lg_call Γ (8, 0, 0) [] [.int v] vl_RL_99 mi_X5_wipe (con_cast hm.1 (m_wipe l hm.2 hn)) rfl rfl rfl (by decide +kernel) (okI _ rfl) rfl ⟨Nat.le_of_ble_eq_true rfl, Nat.le_of_ble_eq_true rfl⟩ (Nat.le_of_ble_eq_true rfl) hcs (by decide +kernel) rfl (fun v2 σ2 hp => ?_)
  obtain ⟨hv2, hJ2⟩ := j_end (r := (xwipe (habs σ 0) (hist σ) (pv σ))) hw hp
  exact lg_eq Γ (off := 44) (hv.trans (val_of hv2).symm) (by decide +kernel) (by decide) (kk σ2 hJ2)
set_option maxHeartbeats 1000000 in
theorem op_fault (Γ : LC E p s m meth c b L xs) {j n : Nat} (hj : j + 4 ≤ L) (hJ : JI n σ) (hn : n ≤ 1000000) (hcs : cells ≤ room_1.cells ∧ slots ≤ room_1.slots) (kk : ∀ σ', JI (n + 720) σ' → LG l E p e s m below meth c b cells slots σ' 779 (nI j) []) : LG l E p e s m below meth c b cells slots σ 740 (nI j) [] := by
  refine lg_x Γ (by decide +kernel) ?_
  refine lg_call Γ (7, 0, 0) [] [] vl_RL_100 mi_X4_fault (c_X4_fault l hJ.1) rfl rfl rfl (by decide +kernel) (okI _ rfl) rfl ⟨Nat.le_of_ble_eq_true rfl, Nat.le_of_ble_eq_true rfl⟩ (Nat.le_of_ble_eq_true rfl) hcs (by decide +kernel) rfl (fun v σ1 hw => ?_)
  obtain ⟨hv, hw⟩ := hw
  have hv := val_of hv
  have hm := j_mid hJ hw
  refine lg_m Γ (by decide +kernel) ?_
  refine lg_call Γ (8, 0, 0) [] [.int v] vl_RL_103 mi_X5_fault (con_cast hm.1 (m_fault l hm.2)) rfl rfl rfl (by decide +kernel) (okI _ rfl) rfl ⟨Nat.le_of_ble_eq_true rfl, Nat.le_of_ble_eq_true rfl⟩ (Nat.le_of_ble_eq_true rfl) hcs (by decide +kernel) rfl (fun v2 σ2 hp => ?_)
  obtain ⟨hv2, hJ2⟩ := j_end (r := (xfault (pv σ), ((habs σ 0, (hist σ, pv σ)) : XS))) hw hp
  exact lg_eq Γ (off := 31) (hv.trans (val_of hv2).symm) (by decide +kernel) (by decide) (kk σ2 hJ2)
set_option maxHeartbeats 1000000 in
theorem op_load (Γ : LC E p s m meth c b L xs) {j n : Nat} (hj : j + 4 ≤ L) (hJ : JI n σ) (hn : n ≤ 1000000) (hcs : cells ≤ room_1.cells ∧ slots ≤ room_1.slots) (kk : ∀ σ', JI (n + 720) σ' → LG l E p e s m below meth c b cells slots σ' 779 (nI j) []) : LG l E p e s m below meth c b cells slots σ 753 (nI j) [] := by
  refine lg_x Γ (by decide +kernel) ?_
  refine lg_call Γ (7, 0, 0) [] [] vl_RL_104 mi_X4_load (c_X4_load l hJ.1) rfl rfl rfl (by decide +kernel) (okI _ rfl) rfl ⟨Nat.le_of_ble_eq_true rfl, Nat.le_of_ble_eq_true rfl⟩ (Nat.le_of_ble_eq_true rfl) hcs (by decide +kernel) rfl (fun v σ1 hw => ?_)
  obtain ⟨hv, hw⟩ := hw
  have hv := val_of hv
  have hm := j_mid hJ hw
  refine lg_m Γ (by decide +kernel) ?_
  refine lg_call Γ (8, 0, 0) [] [.int v] vl_RL_107 mi_X5_load (con_cast hm.1 (m_load l hm.2 hn)) rfl rfl rfl (by decide +kernel) (okI _ rfl) rfl ⟨Nat.le_of_ble_eq_true rfl, Nat.le_of_ble_eq_true rfl⟩ (Nat.le_of_ble_eq_true rfl) hcs (by decide +kernel) rfl (fun v2 σ2 hp => ?_)
  obtain ⟨hv2, hJ2⟩ := j_end (r := (xload (habs σ 0) (hist σ) (pv σ))) hw hp
  exact lg_eq Γ (off := 18) (hv.trans (val_of hv2).symm) (by decide +kernel) (by decide) (kk σ2 hJ2)
set_option maxHeartbeats 1000000 in
theorem op_undo (Γ : LC E p s m meth c b L xs) {j n : Nat} (hj : j + 4 ≤ L) (hJ : JI n σ) (hn : n ≤ 1000000) (hcs : cells ≤ room_1.cells ∧ slots ≤ room_1.slots) (kk : ∀ σ', JI (n + 720) σ' → LG l E p e s m below meth c b cells slots σ' 779 (nI j) []) : LG l E p e s m below meth c b cells slots σ 766 (nI j) [] := by
  refine lg_x Γ (by decide +kernel) ?_
  refine lg_call Γ (7, 0, 0) [] [] vl_RL_108 mi_X4_undo (c_X4_undo l hJ.1) rfl rfl rfl (by decide +kernel) (okI _ rfl) rfl ⟨Nat.le_of_ble_eq_true rfl, Nat.le_of_ble_eq_true rfl⟩ (Nat.le_of_ble_eq_true rfl) hcs (by decide +kernel) rfl (fun v σ1 hw => ?_)
  obtain ⟨hv, hw⟩ := hw
  have hv := val_of hv
  have hm := j_mid hJ hw
  refine lg_m Γ (by decide +kernel) ?_
  refine lg_call Γ (8, 0, 0) [] [.int v] vl_RL_111 mi_X5_undo (con_cast hm.1 (m_undo l hm.2 hn)) rfl rfl rfl (by decide +kernel) (okI _ rfl) rfl ⟨Nat.le_of_ble_eq_true rfl, Nat.le_of_ble_eq_true rfl⟩ (Nat.le_of_ble_eq_true rfl) hcs (by decide +kernel) rfl (fun v2 σ2 hp => ?_)
  obtain ⟨hv2, hJ2⟩ := j_end (r := (xundo (habs σ 0) (hist σ) (pv σ))) hw hp
  exact lg_eq Γ (off := 5) (hv.trans (val_of hv2).symm) (by decide +kernel) (by decide) (kk σ2 hJ2)
theorem sub4 {L j : Nat} (hL : L ≤ 2048) (hj : j ≤ 4000) : (nI L - 4 < nI j) ↔ ¬ j + 4 ≤ L := by
  rcases Nat.lt_or_ge L 4 with q | q
  · have h1 : nI L - 4 < 0 := (by decide +kernel : ∀ L, L < 4 → nI L - 4 < 0) L q
    have h2 : (0 : Int32) ≤ nI j := nI_pos' (by omega)
    have h3 : nI L - 4 < nI j := by
      rw [Int32.lt_iff_toInt_lt] at h1 ⊢
      rw [Int32.le_iff_toInt_le] at h2
      omega
    exact ⟨fun _ => by omega, fun _ => h3⟩
  · obtain ⟨d, rfl⟩ : ∃ d, L = d + 4 := ⟨L - 4, by omega⟩
    have e : nI (d + 4) - 4 = nI d := by
      rw [Int32.sub_eq_add_neg]
      have := nI_sub (m := d + 4) (e := 4) (by omega)
      rw [show d + 4 - 4 = d by omega] at this
      exact this
    rw [e, nI_ltI (by omega) (by omega)]
    omega
set_option maxHeartbeats 4000000 in
theorem lg_body (Γ : LC E p s m meth c b L xs) {j n : Nat} (hle : j + 4 ≤ L) (hJ : JI n σ) (hn : n ≤ 1000000) (hcs : cells ≤ room_1.cells ∧ slots ≤ room_1.slots) (hn0 : LG l E p e s m below meth c b cells slots σ 779 (nI j) []) (hnext : ∀ σ', JI (n + 720) σ' → LG l E p e s m below meth c b cells slots σ' 779 (nI j) []) : LG l E p e s m below meth c b cells slots σ 26 (nI j) [] := by
  intro H locs ls hσ hP hS hl
  obtain ⟨⟨hx, hb, hr, hml, hown, hts, hX, hbl, hlk, hgv⟩, hKE, hE, hEA, hL⟩ := id Γ
  refine lv_aload_n hx hb (show decode code 26 = .ok (.aload_n 0, 1) by decide +kernel) rfl (lv_at hl 0 rfl) ?_
  refine lv_iload_n hx hb (show decode code 27 = .ok (.iload_n 3, 1) by decide +kernel) rfl (lv_at hl 3 rfl) ?_
  refine va_sld hx hb hX hbl (A := fun q : Nat => s.heap.size ≤ q) (Nat.not_le.mpr hbl) hS (vp_in_nI (show j < L by omega) (by omega)) (show decode code 28 = .ok (.iaload, 1) by decide +kernel) ?_
  refine lv_bipush (v := 31) hx hb (show decode code 29 = .ok (.bipush 31, 2) by decide +kernel) (by decide) ?_
  refine lv_iand hx hb (show decode code 31 = .ok (.iand, 1) by decide +kernel) ?_
  have dT : decode code 32 = .ok (.tableswitch 747 0 22 #[108, 131, 164, 207, 250, 283, 296, 319, 352, 365, 398, 431, 464, 497, 530, 563, 586, 619, 642, 695, 708, 721, 734], 108) := by decide +kernel
  generalize xs (nI j).toNatClampNeg &&& (31 : Int32) = z
  rcases pk_ix z (n := 23) (by decide) with zq | zq | ⟨j23, hj23, rfl⟩
  · refine lv_tableOut (tgt := 779) hx hb dT (Or.inl (tab_lo zq)) (by decide) ?_
    exact hn0 H locs ls hσ hP hS hl
  · refine lv_tableOut (tgt := 779) hx hb dT (Or.inr (tab_hi 22 (by decide) zq)) (by decide) ?_
    exact hn0 H locs ls hσ hP hS hl
  · match j23, hj23 with
    | 0, hj23 =>
      refine lv_tableIn (off := 108) (tgt := 140) hx hb dT (by decide) (by decide) rfl (by decide) ?_
      exact op_resident Γ hle hJ hn hcs hnext H locs ls hσ hP hS hl
    | 1, hj23 =>
      refine lv_tableIn (off := 131) (tgt := 163) hx hb dT (by decide) (by decide) rfl (by decide) ?_
      exact op_weigh Γ hle hJ hn hcs hnext H locs ls hσ hP hS hl
    | 2, hj23 =>
      refine lv_tableIn (off := 164) (tgt := 196) hx hb dT (by decide) (by decide) rfl (by decide) ?_
      exact op_away Γ hle hJ hn hcs hnext H locs ls hσ hP hS hl
    | 3, hj23 =>
      refine lv_tableIn (off := 207) (tgt := 239) hx hb dT (by decide) (by decide) rfl (by decide) ?_
      exact op_area Γ hle hJ hn hcs hnext H locs ls hσ hP hS hl
    | 4, hj23 =>
      refine lv_tableIn (off := 250) (tgt := 282) hx hb dT (by decide) (by decide) rfl (by decide) ?_
      exact op_set Γ hle hJ hn hcs hnext H locs ls hσ hP hS hl
    | 5, hj23 =>
      refine lv_tableIn (off := 283) (tgt := 315) hx hb dT (by decide) (by decide) rfl (by decide) ?_
      exact op_plan Γ hle hJ hn hcs hnext H locs ls hσ hP hS hl
    | 6, hj23 =>
      refine lv_tableIn (off := 296) (tgt := 328) hx hb dT (by decide) (by decide) rfl (by decide) ?_
      exact op_done Γ hle hJ hn hcs hnext H locs ls hσ hP hS hl
    | 7, hj23 =>
      refine lv_tableIn (off := 319) (tgt := 351) hx hb dT (by decide) (by decide) rfl (by decide) ?_
      exact op_extra Γ hle hJ hn hcs hnext H locs ls hσ hP hS hl
    | 8, hj23 =>
      refine lv_tableIn (off := 352) (tgt := 384) hx hb dT (by decide) (by decide) rfl (by decide) ?_
      exact op_end Γ hle hJ hn hcs hnext H locs ls hσ hP hS hl
    | 9, hj23 =>
      refine lv_tableIn (off := 365) (tgt := 397) hx hb dT (by decide) (by decide) rfl (by decide) ?_
      exact op_propose Γ hle hJ hn hcs hnext H locs ls hσ hP hS hl
    | 10, hj23 =>
      refine lv_tableIn (off := 398) (tgt := 430) hx hb dT (by decide) (by decide) rfl (by decide) ?_
      exact op_answer Γ hle hJ hn hcs hnext H locs ls hσ hP hS hl
    | 11, hj23 =>
      refine lv_tableIn (off := 431) (tgt := 463) hx hb dT (by decide) (by decide) rfl (by decide) ?_
      exact op_about Γ hle hJ hn hcs hnext H locs ls hσ hP hS hl
    | 12, hj23 =>
      refine lv_tableIn (off := 464) (tgt := 496) hx hb dT (by decide) (by decide) rfl (by decide) ?_
      exact op_room Γ hle hJ hn hcs hnext H locs ls hσ hP hS hl
    | 13, hj23 =>
      refine lv_tableIn (off := 497) (tgt := 529) hx hb dT (by decide) (by decide) rfl (by decide) ?_
      exact op_task Γ hle hJ hn hcs hnext H locs ls hσ hP hS hl
    | 14, hj23 =>
      refine lv_tableIn (off := 530) (tgt := 562) hx hb dT (by decide) (by decide) rfl (by decide) ?_
      exact op_swap Γ hle hJ hn hcs hnext H locs ls hσ hP hS hl
    | 15, hj23 =>
      refine lv_tableIn (off := 563) (tgt := 595) hx hb dT (by decide) (by decide) rfl (by decide) ?_
      exact op_count Γ hle hJ hn hcs hnext H locs ls hσ hP hS hl
    | 16, hj23 =>
      refine lv_tableIn (off := 586) (tgt := 618) hx hb dT (by decide) (by decide) rfl (by decide) ?_
      exact op_forecast Γ hle hJ hn hcs hnext H locs ls hσ hP hS hl
    | 17, hj23 =>
      refine lv_tableIn (off := 619) (tgt := 651) hx hb dT (by decide) (by decide) rfl (by decide) ?_
      exact op_fairer Γ hle hJ hn hcs hnext H locs ls hσ hP hS hl
    | 18, hj23 =>
      refine lv_tableIn (off := 642) (tgt := 674) hx hb dT (by decide) (by decide) rfl (by decide) ?_
      exact op_put Γ hle hJ hn hcs hnext H locs ls hσ hP hS hl
    | 19, hj23 =>
      refine lv_tableIn (off := 695) (tgt := 727) hx hb dT (by decide) (by decide) rfl (by decide) ?_
      exact op_wipe Γ hle hJ hn hcs hnext H locs ls hσ hP hS hl
    | 20, hj23 =>
      refine lv_tableIn (off := 708) (tgt := 740) hx hb dT (by decide) (by decide) rfl (by decide) ?_
      exact op_fault Γ hle hJ hn hcs hnext H locs ls hσ hP hS hl
    | 21, hj23 =>
      refine lv_tableIn (off := 721) (tgt := 753) hx hb dT (by decide) (by decide) rfl (by decide) ?_
      exact op_load Γ hle hJ hn hcs hnext H locs ls hσ hP hS hl
    | 22, hj23 =>
      refine lv_tableIn (off := 734) (tgt := 766) hx hb dT (by decide) (by decide) rfl (by decide) ?_
      exact op_undo Γ hle hJ hn hcs hnext H locs ls hσ hP hS hl
    | j23 + 23, hj23 => exact absurd hj23 (by omega)
theorem JI.le {n k : Nat} {σ : Sg} (h : JI n σ) (hk : n ≤ k) : JI k σ := ⟨h.1, h.2.le hk⟩
set_option maxHeartbeats 2000000 in
theorem lg_loop (Γ : LC E p s m meth c b L xs) (hcs : cells ≤ room_1.cells ∧ slots ≤ room_1.slots) : ∀ (k t : Nat) (σ : Sg), t + k = 513 → JI (720 * t) σ → LG l E p e s m below meth c b cells slots σ 18 (nI (4 * t)) [] := by
  intro k
  induction k with
  | zero =>
    intro t σ hk hJ H locs ls hσ hP hS hl
    obtain ⟨⟨hx, hb, hr, hml, hown, hts, hX, hbl, hlk, hgv⟩, hKE, hE, hEA, hL⟩ := id Γ
    refine lv_iload_n hx hb (show decode code 18 = .ok (.iload_n 3, 1) by decide +kernel) rfl (lv_at hl 3 rfl) ?_
    refine lv_aload_n hx hb (show decode code 19 = .ok (.aload_n 0, 1) by decide +kernel) rfl (lv_at hl 0 rfl) ?_
    refine va_slen hx hb hX hbl (A := fun q : Nat => s.heap.size ≤ q) (Nat.not_le.mpr hbl) hS (show decode code 20 = .ok (.arraylength, 1) by decide +kernel) ?_
    refine lv_iconst (v := 4) hx hb (show decode code 21 = .ok (.iconst 4, 1) by decide +kernel) (by decide) ?_
    refine lv_isub hx hb (show decode code 22 = .ok (.isub, 1) by decide +kernel) ?_
    refine lv_icmp_gt (tgt := 785) hx hb (show decode code 23 = .ok (.if_icmp .gt 762, 3) by decide +kernel) (by decide) (fun z => ?_) (fun z => absurd ((sub4 hL (by omega)).mpr (by omega)) z)
    refine lv_iconst (v := 1) hx hb (show decode code 785 = .ok (.iconst 1, 1) by decide +kernel) (by decide) ?_
    refine va_forget hS.2.2 ?_
    refine W.widen (k := 600000) (n := 7302250) hcs.1 hcs.2 ?_
    exact lw_ret hx hb hr hlk (show decode code 786 = .ok (.ireturn, 1) by decide +kernel)
  | succ k ih =>
    intro t σ hk hJ H locs ls hσ hP hS hl
    obtain ⟨⟨hx, hb, hr, hml, hown, hts, hX, hbl, hlk, hgv⟩, hKE, hE, hEA, hL⟩ := id Γ
    have hback : ∀ σ', JI (720 * t + 720) σ' → LG l E p e s m below meth c b cells slots σ' 779 (nI (4 * t)) [] := by
      intro σ' hJ' H locs ls hσ hP hS hl
      refine lv_iinc (v := nI (4 * t) + 4) (lv' := [(3, .int (nI (4 * t) + 4)), (0, .ref b), (1, .ref (E.1 (7, 0, 0))), (2, .ref (E.1 (8, 0, 0)))]) hx hb (show decode code 779 = .ok (.iinc 3 4, 3) by decide +kernel) hl (k := 3) rfl rfl (by decide) rfl (fun ls hl => ?_)
      refine lv_goto (tgt := 18) hx hb (show decode code 782 = .ok (.goto (-764), 3) by decide +kernel) (by decide) ?_
      have e : nI (4 * t) + 4 = nI (4 * (t + 1)) := by rw [show 4 * (t + 1) = 4 * t + 4 by omega, ← nI_add]; rfl
      rw [e] at hl
      exact ih (t + 1) σ' (by omega) (by rw [show 720 * (t + 1) = 720 * t + 720 by omega]; exact hJ') H locs ls hσ hP hS (lv_sub hl [1, 2, 3, 0] rfl)
    refine lv_iload_n hx hb (show decode code 18 = .ok (.iload_n 3, 1) by decide +kernel) rfl (lv_at hl 3 rfl) ?_
    refine lv_aload_n hx hb (show decode code 19 = .ok (.aload_n 0, 1) by decide +kernel) rfl (lv_at hl 0 rfl) ?_
    refine va_slen hx hb hX hbl (A := fun q : Nat => s.heap.size ≤ q) (Nat.not_le.mpr hbl) hS (show decode code 20 = .ok (.arraylength, 1) by decide +kernel) ?_
    refine lv_iconst (v := 4) hx hb (show decode code 21 = .ok (.iconst 4, 1) by decide +kernel) (by decide) ?_
    refine lv_isub hx hb (show decode code 22 = .ok (.isub, 1) by decide +kernel) ?_
    refine lv_icmp_gt (tgt := 785) hx hb (show decode code 23 = .ok (.if_icmp .gt 762, 3) by decide +kernel) (by decide) (fun z => ?_) (fun z => ?_)
    · refine lv_iconst (v := 1) hx hb (show decode code 785 = .ok (.iconst 1, 1) by decide +kernel) (by decide) ?_
      refine va_forget hS.2.2 ?_
      refine W.widen (k := 600000) (n := 7302250) hcs.1 hcs.2 ?_
      exact lw_ret hx hb hr hlk (show decode code 786 = .ok (.ireturn, 1) by decide +kernel)
    · have hle : 4 * t + 4 ≤ L := Decidable.of_not_not (fun y => z ((sub4 hL (by omega)).mpr y))
      exact lg_body Γ hle hJ (by omega) hcs (hback σ (hJ.le (by omega))) hback H locs ls hσ hP hS hl
end LAW
