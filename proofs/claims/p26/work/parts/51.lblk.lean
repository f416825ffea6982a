/-! BLOCKS for the law's judgement -/
abbrev BL : Type := List (Option AV) × List AV × LB
def ilenL : Instr → Nat
  | .aload _ => 2
  | .astore _ => 2
  | i => ilen i
def xI (v : Option AV) (f : Int32 → Option BL) : Option BL := match v with
  | some (.inl x) => f x
  | _ => none
theorem xI_ok {v : Option AV} {f : Int32 → Option BL} {r : BL} (h : xI v f = some r) : ∃ x, v = some (vI x) ∧ f x = some r := by
  unfold xI at h
  split at h
  · exact ⟨_, rfl, h⟩
  · cases h
def xQ (v : Option AV) (f : Lo → Option BL) : Option BL := match v with
  | some (.inr (.inr (some x))) => f x
  | _ => none
theorem xQ_ok {v : Option AV} {f : Lo → Option BL} {r : BL} (h : xQ v f = some r) : ∃ x, v = some (vR x) ∧ f x = some r := by
  unfold xQ at h
  split at h
  · exact ⟨_, rfl, h⟩
  · cases h
def yI (st : List AV) (f : Int32 → List AV → Option BL) : Option BL := match st with
  | .inl x :: r => f x r
  | _ => none
theorem yI_ok {st : List AV} {f : Int32 → List AV → Option BL} {r : BL} (h : yI st f = some r) : ∃ x t, st = vI x :: t ∧ f x t = some r := by
  unfold yI at h
  split at h
  · exact ⟨_, _, rfl, h⟩
  · cases h
def yL (st : List AV) (f : Int64 → List AV → Option BL) : Option BL := match st with
  | .inr (.inl x) :: r => f x r
  | _ => none
theorem yL_ok {st : List AV} {f : Int64 → List AV → Option BL} {r : BL} (h : yL st f = some r) : ∃ x t, st = vL x :: t ∧ f x t = some r := by
  unfold yL at h
  split at h
  · exact ⟨_, _, rfl, h⟩
  · cases h
def yQ (st : List AV) (f : Lo → List AV → Option BL) : Option BL := match st with
  | .inr (.inr (some x)) :: r => f x r
  | _ => none
theorem yQ_ok {st : List AV} {f : Lo → List AV → Option BL} {r : BL} (h : yQ st f = some r) : ∃ x t, st = vR x :: t ∧ f x t = some r := by
  unfold yQ at h
  split at h
  · exact ⟨_, _, rfl, h⟩
  · cases h
def x1 (loc : List (Option AV)) (i : Nat) (v : AV) (f : List (Option AV) → Option BL) : Option BL := cond (Nat.blt i loc.length) (match st1 loc i v with
  | some l => f l
  | none => none) none
theorem x1_ok {loc : List (Option AV)} {i : Nat} {v : AV} {f : List (Option AV) → Option BL} {r : BL} (h : x1 loc i v f = some r) : i < loc.length ∧ ∃ l, st1 loc i v = some l ∧ f l = some r := by
  unfold x1 at h
  cases hb : Nat.blt i loc.length with
  | false => rw [hb] at h; cases h
  | true =>
    rw [hb, cond_true] at h
    refine ⟨by simpa [Nat.blt_eq] using hb, ?_⟩
    split at h
    · exact ⟨_, by assumption, h⟩
    · cases h
def yA (A : List Nat) (i : Int32) (q : Lo) (f : Nat → Option BL) : Option BL := cond (Nat.beq q.1 9 && Nat.beq q.2.2 0 && A.any (fun k => Nat.beq k q.2.1) && ibt i (mLen q.2.1)) (f q.2.1) none
theorem yA_ok {A : List Nat} {i : Int32} {q : Lo} {f : Nat → Option BL} {r : BL} (h : yA A i q f = some r) : ∃ j, q = (9, j, 0) ∧ j ∈ A ∧ vp_in i (mLen j) ∧ f j = some r := by
  unfold yA at h
  obtain ⟨q1, q2, q3⟩ := q
  cases hb : (Nat.beq q1 9 && Nat.beq q3 0 && A.any (fun k => Nat.beq k q2) && ibt i (mLen q2)) with
  | false => simp only [hb, cond_false] at h; cases h
  | true =>
    simp only [hb, cond_true] at h
    simp only [Bool.and_eq_true] at hb
    obtain ⟨⟨⟨h1, h2⟩, h3⟩, h4⟩ := hb
    have e1 := Nat.eq_of_beq_eq_true h1
    have e2 := Nat.eq_of_beq_eq_true h2
    obtain ⟨k, hk, h5⟩ := List.any_eq_true.mp h3
    have e3 := Nat.eq_of_beq_eq_true h5
    subst e1; subst e2; subst e3
    exact ⟨k, rfl, hk, ibt_ok h4, h⟩
def yD (loc : List (Option AV)) (st : List AV) (B : LB) : Option BL := match st with
  | .inl x :: r => some (loc, vI x :: vI x :: r, B)
  | _ => none
def lstep (A : List Nat) (i : Instr) (loc : List (Option AV)) (st : List AV) (B : LB) : Option BL := match i with
  | .iload_n k => xI (gl loc k) fun x => some (loc, vI x :: st, B)
  | .iload k => xI (gl loc k) fun x => some (loc, vI x :: st, B)
  | .aload_n k => xQ (gl loc k) fun x => some (loc, vR x :: st, B)
  | .aload k => xQ (gl loc k) fun x => some (loc, vR x :: st, B)
  | .iconst n => some (loc, vI (Int32.ofInt n) :: st, B)
  | .bipush n => some (loc, vI (Int8.ofInt n).toInt32 :: st, B)
  | .sipush n => some (loc, vI (Int16.ofInt n).toInt32 :: st, B)
  | .istore_n k => yI st fun x r => x1 loc k (vI x) fun l => some (l, r, B)
  | .istore k => yI st fun x r => x1 loc k (vI x) fun l => some (l, r, B)
  | .astore_n k => yQ st fun x r => x1 loc k (vR x) fun l => some (l, r, B)
  | .astore k => yQ st fun x r => x1 loc k (vR x) fun l => some (l, r, B)
  | .iinc k n => xI (gl loc k) fun x => x1 loc k (vI (x + Int32.ofInt n)) fun l => some (l, st, B)
  | .iadd => yI st fun y r => yI r fun x r => some (loc, vI (x + y) :: r, B)
  | .isub => yI st fun y r => yI r fun x r => some (loc, vI (x - y) :: r, B)
  | .imul => yI st fun y r => yI r fun x r => some (loc, vI (x * y) :: r, B)
  | .iand => yI st fun y r => yI r fun x r => some (loc, vI (x &&& y) :: r, B)
  | .ior => yI st fun y r => yI r fun x r => some (loc, vI (x ||| y) :: r, B)
  | .ishl => yI st fun y r => yI r fun x r => some (loc, vI (x <<< (y &&& 31)) :: r, B)
  | .ishr => yI st fun y r => yI r fun x r => some (loc, vI (x >>> (y &&& 31)) :: r, B)
  | .ineg => yI st fun x r => some (loc, vI (-x) :: r, B)
  | .lor => yL st fun y r => yL r fun x r => some (loc, vL (x ||| y) :: r, B)
  | .lshl => yI st fun y r => yL r fun x r => some (loc, vL (x <<< (y.toInt64 &&& 63)) :: r, B)
  | .i2l => yI st fun x r => some (loc, vL x.toInt64 :: r, B)
  | .pop => yI st fun _ r => some (loc, r, B)
  | .dup => yD loc st B
  | .dup2 => yI st fun x r => yQ r fun q r => some (loc, vI x :: vR q :: vI x :: vR q :: r, B)
  | .iaload => yI st fun i r => yQ r fun q r => yA A i q fun j => some (loc, vI (B j i.toNatClampNeg) :: r, B)
  | .iastore => yI st fun x r => yI r fun i r => yQ r fun q r => yA A i q fun j => some (loc, r, updB B j i.toNatClampNeg x)
  | _ => none
section LBLK
variable {l : Launch} {R : Room} {cc : ByteArray} {nL : Nat} {ret : Option FieldType} {K : LK} {pc : Nat} {A : List Nat} {B B' : LB} {loc loc' : List (Option AV)} {st st' : List AV} {X : XS} {cs sl : Nat}
set_option maxHeartbeats 1000000 in
theorem lstep_ok {i : Instr} (h : lstep A i loc st B = some (loc', st', B')) (hlen : loc.length = nL) (hd : decode cc pc = .ok (i, ilenL i)) : loc'.length = nL ∧ (GL l R cc nL ret K (pc + ilenL i) A B' loc' st' X cs sl → GL l R cc nL ret K pc A B loc st X cs sl) := by
  subst hlen
  cases i with
  | iload_n k => obtain ⟨x, h1, h2⟩ := xI_ok (h : xI (gl loc k) _ = _); cases h2; exact ⟨rfl, l_iload_n hd h1⟩
  | iload k => obtain ⟨x, h1, h2⟩ := xI_ok (h : xI (gl loc k) _ = _); cases h2; exact ⟨rfl, l_iload hd h1⟩
  | aload_n k => obtain ⟨x, h1, h2⟩ := xQ_ok (h : xQ (gl loc k) _ = _); cases h2; exact ⟨rfl, l_aload_n hd h1⟩
  | aload k => obtain ⟨x, h1, h2⟩ := xQ_ok (h : xQ (gl loc k) _ = _); cases h2; exact ⟨rfl, l_aload hd h1⟩
  | iconst n => cases (h : some _ = _); exact ⟨rfl, l_iconst hd⟩
  | bipush n => cases (h : some _ = _); exact ⟨rfl, l_bipush hd⟩
  | sipush n => cases (h : some _ = _); exact ⟨rfl, l_sipush hd⟩
  | istore_n k => obtain ⟨x, t, rfl, h⟩ := yI_ok (h : yI st _ = _); obtain ⟨hi, l', hs, h⟩ := x1_ok h; cases h; exact ⟨b1_len hs, l_istore_n hd hi hs⟩
  | istore k => obtain ⟨x, t, rfl, h⟩ := yI_ok (h : yI st _ = _); obtain ⟨hi, l', hs, h⟩ := x1_ok h; cases h; exact ⟨b1_len hs, l_istore hd hi hs⟩
  | astore_n k => obtain ⟨x, t, rfl, h⟩ := yQ_ok (h : yQ st _ = _); obtain ⟨hi, l', hs, h⟩ := x1_ok h; cases h; exact ⟨b1_len hs, l_astore_n hd hi hs⟩
  | astore k => obtain ⟨x, t, rfl, h⟩ := yQ_ok (h : yQ st _ = _); obtain ⟨hi, l', hs, h⟩ := x1_ok h; cases h; exact ⟨b1_len hs, l_astore hd hi hs⟩
  | iinc k n => obtain ⟨x, h1, h⟩ := xI_ok (h : xI (gl loc k) _ = _); obtain ⟨hi, l', hs, h⟩ := x1_ok h; cases h; exact ⟨b1_len hs, l_iinc hd h1 hi hs⟩
  | iadd => obtain ⟨y, t, rfl, h⟩ := yI_ok (h : yI st _ = _); obtain ⟨x, t, rfl, h⟩ := yI_ok h; cases h; exact ⟨rfl, l_iadd hd⟩
  | isub => obtain ⟨y, t, rfl, h⟩ := yI_ok (h : yI st _ = _); obtain ⟨x, t, rfl, h⟩ := yI_ok h; cases h; exact ⟨rfl, l_isub hd⟩
  | imul => obtain ⟨y, t, rfl, h⟩ := yI_ok (h : yI st _ = _); obtain ⟨x, t, rfl, h⟩ := yI_ok h; cases h; exact ⟨rfl, l_imul hd⟩
  | iand => obtain ⟨y, t, rfl, h⟩ := yI_ok (h : yI st _ = _); obtain ⟨x, t, rfl, h⟩ := yI_ok h; cases h; exact ⟨rfl, l_iand hd⟩
  | ior => obtain ⟨y, t, rfl, h⟩ := yI_ok (h : yI st _ = _); obtain ⟨x, t, rfl, h⟩ := yI_ok h; cases h; exact ⟨rfl, l_ior hd⟩
  | ishl => obtain ⟨y, t, rfl, h⟩ := yI_ok (h : yI st _ = _); obtain ⟨x, t, rfl, h⟩ := yI_ok h; cases h; exact ⟨rfl, l_ishl hd⟩
  | ishr => obtain ⟨y, t, rfl, h⟩ := yI_ok (h : yI st _ = _); obtain ⟨x, t, rfl, h⟩ := yI_ok h; cases h; exact ⟨rfl, l_ishr hd⟩
  | ineg => obtain ⟨y, t, rfl, h⟩ := yI_ok (h : yI st _ = _); cases h; exact ⟨rfl, l_ineg hd⟩
  | lor => obtain ⟨y, t, rfl, h⟩ := yL_ok (h : yL st _ = _); obtain ⟨x, t, rfl, h⟩ := yL_ok h; cases h; exact ⟨rfl, l_lor hd⟩
  | lshl => obtain ⟨y, t, rfl, h⟩ := yI_ok (h : yI st _ = _); obtain ⟨x, t, rfl, h⟩ := yL_ok h; cases h; exact ⟨rfl, l_lshl hd⟩
  | i2l => obtain ⟨y, t, rfl, h⟩ := yI_ok (h : yI st _ = _); cases h; exact ⟨rfl, l_i2l hd⟩
  | pop => obtain ⟨y, t, rfl, h⟩ := yI_ok (h : yI st _ = _); cases h; exact ⟨rfl, l_popI hd⟩
  | dup2 => obtain ⟨y, t, rfl, h⟩ := yI_ok (h : yI st _ = _); obtain ⟨x, t, rfl, h⟩ := yQ_ok h; cases h; exact ⟨rfl, l_dup2 hd⟩
  | iaload => obtain ⟨y, t, rfl, ha⟩ := yI_ok (h : yI st _ = _); obtain ⟨q, t, rfl, hb⟩ := yQ_ok ha; obtain ⟨j, rfl, h1, h2, hc⟩ := yA_ok hb; cases hc; exact ⟨rfl, l_iald j h1 h2 hd⟩
  | iastore => obtain ⟨x, t, rfl, ha⟩ := yI_ok (h : yI st _ = _); obtain ⟨y, t, rfl, hb⟩ := yI_ok ha; obtain ⟨q, t, rfl, hc⟩ := yQ_ok hb; obtain ⟨j, rfl, h1, h2, he⟩ := yA_ok hc; cases he; exact ⟨rfl, l_iast j h1 h2 hd⟩
  | dup =>
    have ha : yD loc st B = some (loc', st', B') := h
    clear h
    unfold yD at ha
    split at ha
    · cases ha; exact ⟨rfl, l_dupI hd⟩
    · cases ha
  | _ => cases (h : (none : Option BL) = some (loc', st', B'))
def lbex (A : List Nat) : List (Nat × Instr) → Nat → List (Option AV) → List AV → LB → Option (Nat × BL)
  | [], pc, loc, st, B => some (pc, loc, st, B)
  | e :: r, pc, loc, st, B => cond (Nat.beq e.1 pc) (match e.2 with
    | .goto off => (match bgo pc off with
      | some t => lbex A r t loc st B
      | none => none)
    | i => (match lstep A i loc st B with
      | some x => lbex A r (pc + ilenL i) x.1 x.2.1 x.2.2
      | none => none)) none
def chkL (cc : ByteArray) (e : Nat × Instr) : Bool := match decode cc e.1 with
  | .ok r => decide (r = (e.2, ilenL e.2))
  | .error _ => false
theorem chkL_ok {e : Nat × Instr} (h : chkL cc e = true) : decode cc e.1 = .ok (e.2, ilenL e.2) := by
  unfold chkL at h
  split at h
  · rename_i r hr
    rw [hr, of_decide_eq_true h]
  · cases h
theorem lbex_ok : ∀ (is : List (Nat × Instr)) (pc : Nat) (loc : List (Option AV)) (st : List AV) (B : LB) (pc' : Nat) (loc' : List (Option AV)) (st' : List AV) (B' : LB), is.all (chkL cc) = true → loc.length = nL → lbex A is pc loc st B = some (pc', loc', st', B') → GL l R cc nL ret K pc' A B' loc' st' X cs sl → GL l R cc nL ret K pc A B loc st X cs sl
  | [], pc, loc, st, B, pc', loc', st', B', _, _, h, k => by
    cases h
    exact k
  | e :: r, pc, loc, st, B, pc', loc', st', B', hc, hlen, h, k => by
    rw [List.all_cons, Bool.and_eq_true] at hc
    have hd := chkL_ok hc.1
    obtain ⟨q, i⟩ := e
    unfold lbex at h
    cases hb : Nat.beq q pc with
    | false => simp only [hb] at h; cases h
    | true =>
      have e1 : q = pc := Nat.eq_of_beq_eq_true hb
      subst e1
      simp only [hb, cond_true] at h
      split at h
      · rename_i off
        split at h
        · rename_i t ht
          have htt : (q : Int) + off = (t : Int) := by
            unfold bgo at ht
            split at ht
            · rename_i z hz
              cases ht
              exact hz
            · cases ht
          exact l_goto hd htt (lbex_ok r t loc st B pc' loc' st' B' hc.2 hlen h k)
        · cases h
      · split at h
        · rename_i x hx
          obtain ⟨l1, g1⟩ := lstep_ok (l := l) (R := R) (ret := ret) (K := K) (X := X) (cs := cs) (sl := sl) (loc' := x.1) (st' := x.2.1) (B' := x.2.2) hx hlen hd
          exact g1 (lbex_ok r _ x.1 x.2.1 x.2.2 pc' loc' st' B' hc.2 l1 h k)
        · cases h
theorem l_blk (is : List (Nat × Instr)) {pc' : Nat} (hc : is.all (chkL cc) = true) (hlen : loc.length = nL) (h : lbex A is pc loc st B = some (pc', loc', st', B')) (k : GL l R cc nL ret K pc' A B' loc' st' X cs sl) : GL l R cc nL ret K pc A B loc st X cs sl := lbex_ok is pc loc st B pc' loc' st' B' hc hlen h k
end LBLK
def putB (j : Nat) (f : Nat → Int32) (B : LB) : LB := fun k => if k = j then f else B k
theorem updB_hd {B : LB} {j i : Nat} {v : Int32} {f : Nat → Int32} : updB (putB j f B) j i v = putB j (upd f i v) B := by
  funext k
  unfold updB putB
  by_cases h : k = j
  · rw [if_pos h, if_pos h, if_pos rfl]
  · rw [if_neg h, if_neg h, if_neg h]
theorem updB_tl {B B' : LB} {j j' i : Nat} {v : Int32} {g : Nat → Int32} (h : j' ≠ j) (e : updB B j i v = B') : updB (putB j' g B) j i v = putB j' g B' := by
  subst e
  funext k
  unfold updB putB
  by_cases hk : k = j
  · subst hk
    rw [if_pos rfl, if_neg (Ne.symm h), if_neg (Ne.symm h)]
    exact (if_pos rfl).symm
  · rw [if_neg hk]
    by_cases h2 : k = j'
    · rw [if_pos h2, if_pos h2]
    · rw [if_neg h2, if_neg h2]
      exact (if_neg hk).symm
theorem putB_c {j : Nat} {f g : Nat → Int32} {B B' : LB} (h : f = g) (h2 : B = B') : putB j f B = putB j g B' := by rw [h, h2]
section LARR
variable {l : Launch} {R : Room} {cc : ByteArray} {nL : Nat} {ret : Option FieldType} {K : LK} {pc : Nat} {A : List Nat} {B : LB} {loc : List (Option AV)} {st : List AV} {X : XS} {cs sl : Nat}
theorem l_ald {i : Nat} {v : Int32} (j : Nat) (hj : j ∈ A) (hi : i < mLen j) (hv : B j i = v) (hd : decode cc pc = .ok (.iaload, 1)) (k : GL l R cc nL ret K (pc + 1) A B loc (vI v :: st) X cs sl) : GL l R cc nL ret K pc A B loc (vI (nI i) :: vR (9, j, 0) :: st) X cs sl := by
  have h12 : mLen j ≤ 12 := by
    unfold mLen
    split <;> omega
  refine l_iald j hj (vp_in_nI hi (by omega)) hd ?_
  rw [nI_clamp (by omega), hv]
  exact k
theorem l_ast {i : Nat} {v : Int32} {B' : LB} (j : Nat) (hj : j ∈ A) (hi : i < mLen j) (hB : updB B j i v = B') (hd : decode cc pc = .ok (.iastore, 1)) (k : GL l R cc nL ret K (pc + 1) A B' loc st X cs sl) : GL l R cc nL ret K pc A B loc (vI v :: vI (nI i) :: vR (9, j, 0) :: st) X cs sl := by
  have h12 : mLen j ≤ 12 := by
    unfold mLen
    split <;> omega
  refine l_iast j hj (vp_in_nI hi (by omega)) hd ?_
  rw [nI_clamp (by omega), hB]
  exact k
theorem l_st {x y : Int32} (h : x = y) (k : GL l R cc nL ret K pc A B loc (vI y :: st) X cs sl) : GL l R cc nL ret K pc A B loc (vI x :: st) X cs sl := by rw [h]; exact k
end LARR
