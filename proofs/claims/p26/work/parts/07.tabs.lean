/-! TABLES: what a table holds, as a number of rows and a function -/
section PURECALL
variable {l : Launch} {R : Room} {own : String} {cc : ByteArray} {nL : Nat} {ret : Option FieldType} {post : Option AV → Sg → Prop} {pc : Nat} {loc : List (Option AV)} {st : List AV} {σ : Sg}
def pureP (t : Int32) (σ : Sg) : Option AV → Sg → Prop := fun o σ' => o = some (vI t) ∧ σ' = σ
theorem g_callVp {k idx maxL n : Nat} {y : MethodName} {bytes : ByteArray} {rt : Option FieldType} {t : Int32} (b : Lo) (As : List AV) (rest : List AV) {x : Nat × List FS} {r : vw_C}
    (hl : VLink own idx y) (hm : MI y bytes maxL rt n) (hC : Con l k y bytes maxL rt (vR b :: As) σ (pureP t σ)) (hsh : shp b = .inl x) (hc : vwCl[x.1]? = some r) (hcl : r.1 = y.cls) (hn : As.length = n) (hR : k + 1 ≤ R.frames ∧ 8 + (maxL + 11) + 32 * k ≤ R.locals)
    (hs : st = As.reverse ++ vR b :: rest) (hcat : (rest.map aCat).sum ≤ 8) (hd : decode cc pc = .ok (.invokevirtual idx, 3))
    (kk : G l R own cc nL ret post (pc + 3) loc (vI t :: rest) σ) : G l R own cc nL ret post pc loc st σ :=
  g_callV b As rest hl hm hC hsh hc hcl hn hR hs hcat hd (fun o σ' hP => by obtain ⟨rfl, h⟩ := hP; rw [h]; exact kk)
theorem g_callSp {k idx maxL n : Nat} {y : MethodName} {bytes : ByteArray} {rt : Option FieldType} {t : Int32} (As : List AV) (rest : List AV)
    (hl : SLink own idx y) (hm : MI y bytes maxL rt n) (hC : Con l k y bytes maxL rt As σ (pureP t σ)) (hn : As.length = n) (hR : k + 1 ≤ R.frames ∧ 8 + (maxL + 11) + 32 * k ≤ R.locals)
    (hs : st = As.reverse ++ rest) (hcat : (rest.map aCat).sum ≤ 8) (hd : decode cc pc = .ok (.invokestatic idx, 3))
    (kk : G l R own cc nL ret post (pc + 3) loc (vI t :: rest) σ) : G l R own cc nL ret post pc loc st σ :=
  g_callS As rest hl hm hC hn hR hs hcat hd (fun o σ' hP => by obtain ⟨rfl, h⟩ := hP; rw [h]; exact kk)
theorem g_callNp {k idx maxL n : Nat} {y : MethodName} {bytes : ByteArray} {rt : Option FieldType} {t : Int32} (As : List AV) (rest : List AV)
    (hw : Cond.methodLinkNest own idx y RX4 ∈ nestWs) (hl : NLink y) (hm : MI y bytes maxL rt n) (hC : Con l k y bytes maxL rt As σ (pureP t σ)) (hn : As.length = n) (hR : k + 1 ≤ R.frames ∧ 8 + (maxL + 11) + 32 * k ≤ R.locals)
    (hs : st = As.reverse ++ rest) (hcat : (rest.map aCat).sum ≤ 8) (hd : decode cc pc = .ok (.invokestatic idx, 3))
    (kk : G l R own cc nL ret post (pc + 3) loc (vI t :: rest) σ) : G l R own cc nL ret post pc loc st σ :=
  g_callN As rest hw hl hm hC hn hR hs hcat hd (fun o σ' hP => by obtain ⟨rfl, h⟩ := hP; rw [h]; exact kk)
end PURECALL
def mst : Nat → Nat
  | 0 => 8
  | 1 => 6
  | 2 => 12
  | 3 => 6
  | 4 => 1
  | _ => 30
def wid : Nat → Nat
  | 0 => 7
  | 1 => 5
  | 2 => 5
  | 3 => 2
  | 4 => 4
  | _ => 2
theorem tMost_eq : ∀ j, tMost j = nI (mst j)
  | 0 => rfl
  | 1 => rfl
  | 2 => rfl
  | 3 => rfl
  | 4 => rfl
  | _ + 5 => rfl
theorem tWid_eq : ∀ j, tWid j = nI (wid j)
  | 0 => rfl
  | 1 => rfl
  | 2 => rfl
  | 3 => rfl
  | 4 => rfl
  | _ + 5 => rfl
theorem tLen_eq : ∀ j, tLen j = mst j * wid j
  | 0 => rfl
  | 1 => rfl
  | 2 => rfl
  | 3 => rfl
  | 4 => rfl
  | _ + 5 => rfl
theorem mst_le : ∀ j, mst j ≤ 30
  | 0 => by decide
  | 1 => by decide
  | 2 => by decide
  | 3 => by decide
  | 4 => by decide
  | _ + 5 => Nat.le_refl _
theorem wid_le : ∀ j, wid j ≤ 7
  | 0 => by decide
  | 1 => by decide
  | 2 => by decide
  | 3 => by decide
  | 4 => by decide
  | _ + 5 => (by decide : 2 ≤ 7)
theorem wid_pos : ∀ j, 0 < wid j
  | 0 => by decide
  | 1 => by decide
  | 2 => by decide
  | 3 => by decide
  | 4 => by decide
  | _ + 5 => (by decide : 0 < 2)
abbrev TV : Type := Nat × (Nat → Nat → Int32)
def tN (σ : Sg) (j h : Nat) : Nat := (σ.1 (0, j, h) 3).toNatClampNeg
def tabs (σ : Sg) (j h : Nat) : TV := (tN σ j h, fun r c => if r < tN σ j h ∧ c < wid j then σ.1 (1, j, h) (r * wid j + c) else 0)
def TOK (σ : Sg) (j h : Nat) : Prop := tN σ j h ≤ mst j ∧ σ.1 (0, j, h) 3 = nI (tN σ j h)
theorem tN_of {σ : Sg} {j h n : Nat} (hn : n ≤ mst j) (e : σ.1 (0, j, h) 3 = nI n) : tN σ j h = n := by
  have := mst_le j
  rw [tN, e, nI_clamp (by omega)]
theorem TOK_of {σ : Sg} {j h n : Nat} (hn : n ≤ mst j) (e : σ.1 (0, j, h) 3 = nI n) : TOK σ j h := by
  rw [TOK, tN_of hn e]
  exact ⟨hn, e⟩
def tcell (T : TV) (row col : Int32) : Int32 := if row < 0 ∨ col < 0 then 0 else T.2 row.toNatClampNeg col.toNatClampNeg
def twr (w : Nat) (T : TV) (row col v : Int32) : TV := (T.1, fun r c => if (¬ row < 0 ∧ ¬ col < 0) ∧ (r = row.toNatClampNeg ∧ c = col.toNatClampNeg) ∧ (r < T.1 ∧ c < w) then v else T.2 r c)
def FrT (j h : Nat) (σ σ' : Sg) : Prop := (∀ q, q ≠ (0, j, h) → q ≠ (1, j, h) → σ'.1 q = σ.1 q) ∧ σ'.2 = σ.2
def TW (j h : Nat) (T' : TV) (σ σ' : Sg) : Prop := tabs σ' j h = T' ∧ TOK σ' j h ∧ FrT j h σ σ'
theorem FrT.rf {j h : Nat} {σ : Sg} : FrT j h σ σ := ⟨fun _ _ _ => rfl, rfl⟩
theorem FrT.tr {j h : Nat} {σ σ1 σ2 : Sg} (a : FrT j h σ σ1) (b : FrT j h σ1 σ2) : FrT j h σ σ2 := ⟨fun q h1 h2 => (b.1 q h1 h2).trans (a.1 q h1 h2), b.2.trans a.2⟩
theorem TW.tr {j h : Nat} {T1 T2 : TV} {σ σ1 σ2 : Sg} (a : TW j h T1 σ σ1) (b : TW j h T2 σ1 σ2) : TW j h T2 σ σ2 := ⟨b.1, b.2.1, a.2.2.tr b.2.2⟩
theorem flat_inj {w r c r' c' : Nat} (h1 : c < w) (h2 : c' < w) (h : r * w + c = r' * w + c') : r = r' ∧ c = c' := by
  have hw : 0 < w := by omega
  have e1 : (r * w + c) / w = r := by rw [Nat.mul_comm, Nat.mul_add_div hw, Nat.div_eq_of_lt h1, Nat.add_zero]
  have e2 : (r' * w + c') / w = r' := by rw [Nat.mul_comm, Nat.mul_add_div hw, Nat.div_eq_of_lt h2, Nat.add_zero]
  have hr : r = r' := by rw [← e1, h, e2]
  subst hr
  exact ⟨rfl, by omega⟩
theorem flat_lt {w m r c : Nat} (hr : r < m) (hc : c < w) : r * w + c < m * w := by
  have : (r + 1) * w ≤ m * w := Nat.mul_le_mul_right w hr
  rw [Nat.succ_mul] at this
  omega
theorem flat_I {w r c : Nat} : nI r * nI w + nI c = nI (r * w + c) := by rw [pk_mul, nI_add]
theorem flat_small {j r c : Nat} (hr : r < mst j) (hc : c < wid j) : r * wid j + c < 2 ^ 31 := by
  have h1 := flat_lt hr hc
  have h2 := Nat.mul_le_mul (mst_le j) (wid_le j)
  omega
theorem ne01 {j h j' h' : Nat} : ((0, j, h) : Lo) ≠ (1, j', h') := by simp
theorem tN_ne {σ : Sg} {j h : Nat} {q : Lo} {k : Nat} {x : Int32} (hq : q ≠ (0, j, h)) : tN (upd2 σ.1 q k x, σ.2) j h = tN σ j h := by
  unfold tN
  rw [show (upd2 σ.1 q k x, σ.2).1 (0, j, h) = σ.1 (0, j, h) from upd2_ne σ.1 k x (Ne.symm hq)]
theorem tw_wr {σ : Sg} {j h r c : Nat} {v : Int32} (hT : TOK σ j h) (hr : r < tN σ j h) (hc : c < wid j) : TW j h (twr (wid j) (tabs σ j h) (nI r) (nI c) v) σ (upd2 σ.1 (1, j, h) (nI (r * wid j + c)).toNatClampNeg v, σ.2) := by
  have hm := hT.1
  have hsm := flat_small (j := j) (r := r) (c := c) (by omega) hc
  have h30 := mst_le j
  have h7 := wid_le j
  rw [nI_clamp hsm]
  have hN : tN (upd2 σ.1 (1, j, h) (r * wid j + c) v, σ.2) j h = tN σ j h := tN_ne (by simp)
  refine ⟨?_, ?_, ?_⟩
  · rw [tabs, hN, twr, tabs]
    simp only [nI_clamp (show r < 2 ^ 31 by omega), nI_clamp (show c < 2 ^ 31 by omega), nI_pos (show r < 2 ^ 31 by omega), nI_pos (show c < 2 ^ 31 by omega), upd2_same, not_false_eq_true, true_and, and_self]
    congr 1
    funext r' c'
    by_cases hin : r' < tN σ j h ∧ c' < wid j
    · by_cases he : r' = r ∧ c' = c
      · obtain ⟨rfl, rfl⟩ := he
        simp [hin, upd]
      · have hne : ¬ r' * wid j + c' = r * wid j + c := fun q => he (flat_inj hin.2 hc q)
        simp [hin, he, upd, hne]
    · simp [hin]
  · have e : (upd2 σ.1 (1, j, h) (r * wid j + c) v, σ.2).1 (0, j, h) = σ.1 (0, j, h) := upd2_ne σ.1 (q := (1, j, h)) (p := (0, j, h)) (r * wid j + c) v ne01
    rw [TOK, hN, e]
    exact hT
  · exact ⟨fun q h1 h2 => upd2_ne σ.1 (q := (1, j, h)) (p := q) (r * wid j + c) v h2, rfl⟩
theorem tw_no {σ : Sg} {j h : Nat} {row col v : Int32} (hT : TOK σ j h) (hout : ¬ (vp_in row (tN σ j h) ∧ vp_in col (wid j))) : TW j h (twr (wid j) (tabs σ j h) row col v) σ σ := by
  refine ⟨?_, hT, FrT.rf⟩
  refine Prod.ext rfl ?_
  funext r c
  show (tabs σ j h).2 r c = if (¬ row < 0 ∧ ¬ col < 0) ∧ (r = row.toNatClampNeg ∧ c = col.toNatClampNeg) ∧ (r < tN σ j h ∧ c < wid j) then v else (tabs σ j h).2 r c
  rw [if_neg]
  intro hh
  have h3 := hh.2.2.1
  have h4 := hh.2.2.2
  have e1 := hh.2.1.1
  have e2 := hh.2.1.2
  exact hout ⟨fun q => q.elim hh.1.1 (fun z => absurd h3 (by omega)), fun q => q.elim hh.1.2 (fun z => absurd h4 (by omega))⟩
theorem tcell_out {σ : Sg} {j h : Nat} {row col : Int32} (hout : ¬ (vp_in row (tN σ j h) ∧ vp_in col (wid j))) : tcell (tabs σ j h) row col = 0 := by
  rw [tcell]
  split
  · rfl
  · rename_i hn
    rw [tabs]
    simp only
    rw [if_neg]
    rintro ⟨h3, h4⟩
    exact hout ⟨fun q => q.elim (fun z => hn (Or.inl z)) (fun z => absurd h3 (Nat.not_lt.mpr z)), fun q => q.elim (fun z => hn (Or.inr z)) (fun z => absurd h4 (Nat.not_lt.mpr z))⟩
theorem tcell_at {σ : Sg} {j h r c : Nat} (hT : TOK σ j h) (hr : r < tN σ j h) (hc : c < wid j) : tcell (tabs σ j h) (nI r) (nI c) = σ.1 (1, j, h) (nI (r * wid j + c)).toNatClampNeg := by
  have hm := hT.1
  have h30 := mst_le j
  have h7 := wid_le j
  have hsm := flat_small (j := j) (r := r) (c := c) (by omega) hc
  rw [tcell, nI_clamp (show r < 2 ^ 31 by omega), nI_clamp (show c < 2 ^ 31 by omega), nI_clamp hsm, if_neg (by rintro (q | q); exact nI_pos (by omega) q; exact nI_pos (by omega) q), tabs]
  simp only
  rw [if_pos ⟨hr, hc⟩]
theorem out_lo {row : Int32} {n : Nat} (h : row < 0) : ¬ vp_in row n := fun q => q (Or.inl h)
theorem out_hi {row : Int32} {n : Nat} (hn : n < 2 ^ 31) (h : nI n ≤ row) : ¬ vp_in row n := by
  rintro q
  have h1 : ¬ row < 0 := fun z => q (Or.inl z)
  obtain ⟨m, hm, rfl⟩ := nI_of h1
  rw [nI_leI hn hm] at h
  exact q (Or.inr (by rw [nI_clamp hm]; exact h))
theorem in_of {row : Int32} {n : Nat} (hn : n < 2 ^ 31) (h0 : ¬ row < 0) (h1 : ¬ nI n ≤ row) : ∃ r, r < n ∧ row = nI r := by
  rcases pk_ix row hn with h | h | h
  · exact absurd h h0
  · exact absurd h h1
  · exact h
def tapp (T : TV) : TV := (T.1 + 1, T.2)
def trem (T : TV) (r0 : Nat) : TV := (T.1 - 1, fun r c => if r < r0 then T.2 r c else T.2 (r + 1) c)
def hasT (x : Int32) (n : Nat) : Int32 := if x < 0 ∨ n ≤ x.toNatClampNeg then 0 else 1
theorem hasT_in {x : Int32} {n : Nat} (h : vp_in x n) : hasT x n = 1 := by rw [hasT, if_neg h]
theorem hasT_out {x : Int32} {n : Nat} (h : ¬ vp_in x n) : hasT x n = 0 := by
  rw [hasT]
  split
  · rfl
  · rename_i h1
    exact absurd h1 h
theorem tabs_can {σ : Sg} {j h r c : Nat} (hh : ¬ (r < tN σ j h ∧ c < wid j)) : (tabs σ j h).2 r c = 0 := by
  rw [tabs]
  simp only
  rw [if_neg hh]
theorem tcell_nI {T : TV} {r c : Nat} (hr : r < 2 ^ 31) (hc : c < 2 ^ 31) : tcell T (nI r) (nI c) = T.2 r c := by
  rw [tcell, nI_clamp hr, nI_clamp hc, if_neg (by rintro (q | q); exact nI_pos hr q; exact nI_pos hc q)]
theorem twr_nI {w : Nat} {T : TV} {r c : Nat} {v : Int32} (hr : r < T.1) (hc : c < w) (hr2 : r < 2 ^ 31) (hc2 : c < 2 ^ 31) : twr w T (nI r) (nI c) v = (T.1, fun r' c' => if r' = r ∧ c' = c then v else T.2 r' c') := by
  refine Prod.ext rfl ?_
  funext r' c'
  show (if (¬ nI r < 0 ∧ ¬ nI c < 0) ∧ (r' = (nI r).toNatClampNeg ∧ c' = (nI c).toNatClampNeg) ∧ (r' < T.1 ∧ c' < w) then v else T.2 r' c') = if r' = r ∧ c' = c then v else T.2 r' c'
  rw [nI_clamp hr2, nI_clamp hc2]
  by_cases he : r' = r ∧ c' = c
  · rw [if_pos he, if_pos ⟨⟨nI_pos hr2, nI_pos hc2⟩, he, by rw [he.1, he.2]; exact ⟨hr, hc⟩⟩]
  · rw [if_neg he, if_neg (fun z => he z.2.1)]
-- the number of rows is set
theorem tabs_rows {σ σ' : Sg} {j h m : Nat} (hm : m ≤ mst j) (e : (upd2 σ.1 (0, j, h) 3 (nI m), σ.2) = σ') : TOK σ' j h ∧ tN σ' j h = m ∧ (∀ r c, (tabs σ' j h).2 r c = if r < m ∧ c < wid j then σ.1 (1, j, h) (r * wid j + c) else 0) ∧ FrT j h σ σ' := by
  subst e
  have e0 : (upd2 σ.1 (0, j, h) 3 (nI m), σ.2).1 (0, j, h) 3 = nI m := by
    show upd2 σ.1 (0, j, h) 3 (nI m) (0, j, h) 3 = nI m
    rw [upd2_same]
    simp [upd]
  have e1 : (upd2 σ.1 (0, j, h) 3 (nI m), σ.2).1 (1, j, h) = σ.1 (1, j, h) := upd2_ne σ.1 (q := (0, j, h)) (p := (1, j, h)) 3 (nI m) (by simp)
  have e2 := tN_of hm e0
  refine ⟨TOK_of hm e0, e2, fun r c => ?_, ⟨fun q h1 h2 => upd2_ne σ.1 (q := (0, j, h)) (p := q) 3 (nI m) h1, rfl⟩⟩
  rw [tabs, e2]
  simp only
  have e3 : upd2 σ.1 (0, j, h) 3 (nI m) (1, j, h) = σ.1 (1, j, h) := e1
  rw [e3]
-- a step of removing
def fR (T : TV) (r0 m c : Nat) : Nat → Nat → Int32 := fun r' c' => if r' + 1 < m then (if r' < r0 then T.2 r' c' else T.2 (r' + 1) c') else if r' + 1 = m ∧ c' < c then T.2 m c' else T.2 r' c'
theorem fR_0 (T : TV) (r0 : Nat) : fR T r0 (r0 + 1) 0 = T.2 := by
  funext r c
  unfold fR
  by_cases h1 : r + 1 < r0 + 1
  · rw [if_pos h1, if_pos (by omega)]
  · rw [if_neg h1, if_neg (by omega)]
theorem fR_step {T : TV} {r0 m c w n : Nat} (hm : 0 < m) (hmn : m < n) (hc : c < w) (hn : n < 2 ^ 31) (hw : w < 2 ^ 31) : twr w (n, fR T r0 m c) (nI (m - 1)) (nI c) (T.2 m c) = (n, fR T r0 m (c + 1)) := by
  rw [twr_nI (show m - 1 < n by omega) hc (by omega) (by omega)]
  refine Prod.ext rfl ?_
  funext r' c'
  show (if r' = m - 1 ∧ c' = c then T.2 m c else fR T r0 m c r' c') = fR T r0 m (c + 1) r' c'
  unfold fR
  by_cases h1 : r' + 1 < m
  · rw [if_pos h1, if_pos h1, if_neg (by omega)]
  · rw [if_neg h1, if_neg h1]
    by_cases h2 : r' + 1 = m ∧ c' < c
    · rw [if_neg (by omega), if_pos h2, if_pos (by omega)]
    · rw [if_neg h2]
      by_cases h3 : r' = m - 1 ∧ c' = c
      · rw [if_pos h3, if_pos (by omega), h3.2]
      · rw [if_neg h3, if_neg (by omega)]
theorem fR_next {T : TV} {r0 m w : Nat} (hr : r0 < m) (hz : ∀ r c, w ≤ c → T.2 r c = 0) : fR T r0 m w = fR T r0 (m + 1) 0 := by
  funext r' c'
  unfold fR
  by_cases h1 : r' + 1 < m
  · rw [if_pos h1, if_pos (show r' + 1 < m + 1 by omega)]
  · rw [if_neg h1]
    by_cases h2 : r' + 1 = m
    · rw [if_pos (show r' + 1 < m + 1 by omega), if_neg (show ¬ r' < r0 by omega), h2]
      by_cases h3 : c' < w
      · rw [if_pos ⟨rfl, h3⟩]
      · rw [if_neg (by omega), hz _ _ (by omega), hz _ _ (by omega)]
    · rw [if_neg (by omega), if_neg (show ¬ r' + 1 < m + 1 by omega), if_neg (by omega)]
def cpS (σ : Sg) (q : Lo) (f : Nat → Int32) : Sg := (fun p => if p = q then f else σ.1 p, σ.2)
theorem cpS_ne {σ : Sg} {q p : Lo} {f : Nat → Int32} (h : p ≠ q) : (cpS σ q f).1 p = σ.1 p := if_neg h
theorem cpS_eq {σ : Sg} {q : Lo} {f : Nat → Int32} : (cpS σ q f).1 q = f := if_pos rfl
