/-! BLOCKS: a stretch of instructions in one step, worked out by evaluation; Math.min, max, arraycopy -/
abbrev BR : Type := List (Option AV) × List AV × Sg
def ilen : Instr → Nat
  | .iload _ => 2
  | .istore _ => 2
  | .lload _ => 2
  | .lstore _ => 2
  | .bipush _ => 2
  | .sipush _ => 3
  | .getfield _ => 3
  | .putfield _ => 3
  | .goto _ => 3
  | .iinc _ _ => 3
  | _ => 1
def flk : List (Nat × Nat × Nat) → Nat → Option (Nat × Nat)
  | [], _ => none
  | e :: r, n => cond (Nat.beq e.1 n) (some e.2) (flk r n)
theorem flk_mem {n : Nat} {x : Nat × Nat} : ∀ {fl : List (Nat × Nat × Nat)}, flk fl n = some x → (n, x.1, x.2) ∈ fl
  | [], h => by cases h
  | e :: r, h => by
    rw [flk] at h
    cases hb : Nat.beq e.1 n with
    | true =>
      rw [hb] at h
      have h1 : e.1 = n := Nat.eq_of_beq_eq_true hb
      have h2 : e.2 = x := Option.some.inj h
      obtain ⟨a, b, c⟩ := e
      subst h2
      subst h1
      exact List.mem_cons_self
    | false =>
      rw [hb] at h
      exact List.mem_cons_of_mem _ (flk_mem h)
def bI (v : Option AV) (f : Int32 → Option BR) : Option BR := match v with
  | some (.inl x) => f x
  | _ => none
theorem bI_ok {v : Option AV} {f : Int32 → Option BR} {r : BR} (h : bI v f = some r) : ∃ x, v = some (vI x) ∧ f x = some r := by
  unfold bI at h
  split at h
  · exact ⟨_, rfl, h⟩
  · cases h
def bL (v : Option AV) (f : Int64 → Option BR) : Option BR := match v with
  | some (.inr (.inl x)) => f x
  | _ => none
theorem bL_ok {v : Option AV} {f : Int64 → Option BR} {r : BR} (h : bL v f = some r) : ∃ x, v = some (vL x) ∧ f x = some r := by
  unfold bL at h
  split at h
  · exact ⟨_, rfl, h⟩
  · cases h
def bQ (v : Option AV) (f : Lo → Option BR) : Option BR := match v with
  | some (.inr (.inr (some x))) => f x
  | _ => none
theorem bQ_ok {v : Option AV} {f : Lo → Option BR} {r : BR} (h : bQ v f = some r) : ∃ x, v = some (vR x) ∧ f x = some r := by
  unfold bQ at h
  split at h
  · exact ⟨_, rfl, h⟩
  · cases h
def pI (st : List AV) (f : Int32 → List AV → Option BR) : Option BR := match st with
  | .inl x :: r => f x r
  | _ => none
theorem pI_ok {st : List AV} {f : Int32 → List AV → Option BR} {r : BR} (h : pI st f = some r) : ∃ x t, st = vI x :: t ∧ f x t = some r := by
  unfold pI at h
  split at h
  · exact ⟨_, _, rfl, h⟩
  · cases h
def pL (st : List AV) (f : Int64 → List AV → Option BR) : Option BR := match st with
  | .inr (.inl x) :: r => f x r
  | _ => none
theorem pL_ok {st : List AV} {f : Int64 → List AV → Option BR} {r : BR} (h : pL st f = some r) : ∃ x t, st = vL x :: t ∧ f x t = some r := by
  unfold pL at h
  split at h
  · exact ⟨_, _, rfl, h⟩
  · cases h
def pQ (st : List AV) (f : Lo → List AV → Option BR) : Option BR := match st with
  | .inr (.inr (some x)) :: r => f x r
  | _ => none
theorem pQ_ok {st : List AV} {f : Lo → List AV → Option BR} {r : BR} (h : pQ st f = some r) : ∃ x t, st = vR x :: t ∧ f x t = some r := by
  unfold pQ at h
  split at h
  · exact ⟨_, _, rfl, h⟩
  · cases h
def b1 (loc : List (Option AV)) (i : Nat) (v : AV) (f : List (Option AV) → Option BR) : Option BR := cond (Nat.blt i loc.length) (match st1 loc i v with
  | some l => f l
  | none => none) none
theorem b1_ok {loc : List (Option AV)} {i : Nat} {v : AV} {f : List (Option AV) → Option BR} {r : BR} (h : b1 loc i v f = some r) : i < loc.length ∧ ∃ l, st1 loc i v = some l ∧ f l = some r := by
  unfold b1 at h
  cases hb : Nat.blt i loc.length with
  | false => rw [hb] at h; cases h
  | true =>
    rw [hb, cond_true] at h
    refine ⟨by simpa [Nat.blt_eq] using hb, ?_⟩
    split at h
    · exact ⟨_, by assumption, h⟩
    · cases h
def b2 (loc : List (Option AV)) (i : Nat) (v : AV) (f : List (Option AV) → Option BR) : Option BR := cond (Nat.blt (i + 1) loc.length) (match st2 loc i v with
  | some l => f l
  | none => none) none
theorem b2_ok {loc : List (Option AV)} {i : Nat} {v : AV} {f : List (Option AV) → Option BR} {r : BR} (h : b2 loc i v f = some r) : i + 1 < loc.length ∧ ∃ l, st2 loc i v = some l ∧ f l = some r := by
  unfold b2 at h
  cases hb : Nat.blt (i + 1) loc.length with
  | false => rw [hb] at h; cases h
  | true =>
    rw [hb, cond_true] at h
    refine ⟨by simpa [Nat.blt_eq] using hb, ?_⟩
    split at h
    · exact ⟨_, by assumption, h⟩
    · cases h
def bF (fl : List (Nat × Nat × Nat)) (n : Nat) (q : Lo) (f : Nat → Nat → FS → Option BR) : Option BR := match flk fl n with
  | some x => (match shp q with
    | .inl y => cond (Nat.beq y.1 x.1) (match y.2[x.2]? with
      | some g => f x.1 x.2 g
      | none => none) none
    | .inr _ => none)
  | none => none
theorem bF_ok {fl : List (Nat × Nat × Nat)} {n : Nat} {q : Lo} {f : Nat → Nat → FS → Option BR} {r : BR} (h : bF fl n q f = some r) : ∃ ci k y g, (n, ci, k) ∈ fl ∧ shp q = .inl y ∧ y.1 = ci ∧ y.2[k]? = some g ∧ f ci k g = some r := by
  unfold bF at h
  split at h
  · rename_i x hx
    split at h
    · rename_i y hy
      cases hb : Nat.beq y.1 x.1 with
      | false => rw [hb] at h; cases h
      | true =>
        rw [hb, cond_true] at h
        split at h
        · rename_i g hg
          exact ⟨x.1, x.2, y, g, flk_mem hx, hy, Nat.eq_of_beq_eq_true hb, hg, h⟩
        · cases h
    · cases h
  · cases h
def ibt (i : Int32) (n : Nat) : Bool := !(decide (i < 0)) && Nat.blt i.toNatClampNeg n
theorem ibt_ok {i : Int32} {n : Nat} (h : ibt i n = true) : vp_in i n := by
  unfold ibt at h
  simp only [Bool.and_eq_true, Bool.not_eq_true', decide_eq_false_iff_not, Nat.blt_eq] at h
  rintro (q | q)
  · exact h.1 q
  · omega
def bA (q : Lo) (i : Int32) (f : Option BR) : Option BR := match shp q with
  | .inr (0, n) => cond (ibt i n) f none
  | _ => none
theorem bA_ok {q : Lo} {i : Int32} {f : Option BR} {r : BR} (h : bA q i f = some r) : ∃ n, shp q = .inr (0, n) ∧ vp_in i n ∧ f = some r := by
  unfold bA at h
  split at h
  · rename_i n hn
    cases hb : ibt i n with
    | false => rw [hb] at h; cases h
    | true =>
      rw [hb, cond_true] at h
      exact ⟨n, hn, ibt_ok hb, h⟩
  · cases h
def bB (b : Bool) (f : Option BR) : Option BR := cond b f none
theorem bB_ok {b : Bool} {f : Option BR} {r : BR} (h : bB b f = some r) : b = true ∧ f = some r := by
  cases b with
  | false => cases h
  | true => exact ⟨rfl, h⟩
def isNo (g : FS) : Bool := match g with
  | none => true
  | _ => false
def bD (loc : List (Option AV)) (st : List AV) (σ : Sg) : Option BR := match st with
  | .inl x :: r => some (loc, vI x :: vI x :: r, σ)
  | .inr (.inr (some q)) :: r => some (loc, vR q :: vR q :: r, σ)
  | _ => none
def bstep (fl : List (Nat × Nat × Nat)) (i : Instr) (loc : List (Option AV)) (st : List AV) (σ : Sg) : Option BR := match i with
  | .iload_n k => bI (gl loc k) fun x => some (loc, vI x :: st, σ)
  | .iload k => bI (gl loc k) fun x => some (loc, vI x :: st, σ)
  | .lload_n k => bL (gl loc k) fun x => some (loc, vL x :: st, σ)
  | .lload k => bL (gl loc k) fun x => some (loc, vL x :: st, σ)
  | .aload_n k => bQ (gl loc k) fun x => some (loc, vR x :: st, σ)
  | .iconst n => some (loc, vI (Int32.ofInt n) :: st, σ)
  | .bipush n => some (loc, vI (Int8.ofInt n).toInt32 :: st, σ)
  | .sipush n => some (loc, vI (Int16.ofInt n).toInt32 :: st, σ)
  | .lconst n => some (loc, vL (Int64.ofNat (n : Nat)) :: st, σ)
  | .istore_n k => pI st fun x r => b1 loc k (vI x) fun l => some (l, r, σ)
  | .istore k => pI st fun x r => b1 loc k (vI x) fun l => some (l, r, σ)
  | .lstore_n k => pL st fun x r => b2 loc k (vL x) fun l => some (l, r, σ)
  | .lstore k => pL st fun x r => b2 loc k (vL x) fun l => some (l, r, σ)
  | .astore_n k => pQ st fun x r => b1 loc k (vR x) fun l => some (l, r, σ)
  | .iinc k n => bI (gl loc k) fun x => b1 loc k (vI (x + Int32.ofInt n)) fun l => some (l, st, σ)
  | .iadd => pI st fun y r => pI r fun x r => some (loc, vI (x + y) :: r, σ)
  | .isub => pI st fun y r => pI r fun x r => some (loc, vI (x - y) :: r, σ)
  | .imul => pI st fun y r => pI r fun x r => some (loc, vI (x * y) :: r, σ)
  | .iand => pI st fun y r => pI r fun x r => some (loc, vI (x &&& y) :: r, σ)
  | .ior => pI st fun y r => pI r fun x r => some (loc, vI (x ||| y) :: r, σ)
  | .ishl => pI st fun y r => pI r fun x r => some (loc, vI (x <<< (y &&& 31)) :: r, σ)
  | .ishr => pI st fun y r => pI r fun x r => some (loc, vI (x >>> (y &&& 31)) :: r, σ)
  | .ineg => pI st fun x r => some (loc, vI (-x) :: r, σ)
  | .land => pL st fun y r => pL r fun x r => some (loc, vL (x &&& y) :: r, σ)
  | .lor => pL st fun y r => pL r fun x r => some (loc, vL (x ||| y) :: r, σ)
  | .lcmp => pL st fun y r => pL r fun x r => some (loc, vI (lg_cmp x y) :: r, σ)
  | .lushr => pI st fun y r => pL r fun x r => some (loc, vL (x.toUInt64 >>> (y.toInt64.toUInt64 &&& Int64.toUInt64 63)).toInt64 :: r, σ)
  | .lshl => pI st fun y r => pL r fun x r => some (loc, vL (x <<< (y.toInt64 &&& 63)) :: r, σ)
  | .lshr => pI st fun y r => pL r fun x r => some (loc, vL (x >>> (y.toInt64 &&& 63)) :: r, σ)
  | .i2l => pI st fun x r => some (loc, vL x.toInt64 :: r, σ)
  | .l2i => pL st fun x r => some (loc, vI x.toInt32 :: r, σ)
  | .i2c => pI st fun x r => some (loc, vI (x.toUInt32 % 65536).toInt32 :: r, σ)
  | .pop => pI st fun _ r => some (loc, r, σ)
  | .dup2 => pI st fun x r => pQ r fun q r => some (loc, vI x :: vR q :: vI x :: vR q :: r, σ)
  | .getfield n => pQ st fun q r => bF fl n q fun _ k g => some (loc, av (σ.1 q) k g :: r, σ)
  | .putfield n => pI st fun x r => pQ r fun q r => bF fl n q fun ci k g => bB (isNo g && (nfin ci k && (!isZ ci k || (x == 0 || x == 1)))) (some (loc, r, (upd2 σ.1 q k x, σ.2)))
  | .iaload => pI st fun i r => pQ r fun q r => bA q i (some (loc, vI (σ.1 q i.toNatClampNeg) :: r, σ))
  | .iastore => pI st fun x r => pI r fun i r => pQ r fun q r => bA q i (some (loc, r, (upd2 σ.1 q i.toNatClampNeg x, σ.2)))
  | .dup => bD loc st σ
  | _ => none
section BLK
variable {l : Launch} {R : Room} {own : String} {cc : ByteArray} {nL : Nat} {ret : Option FieldType} {post : Option AV → Sg → Prop} {pc : Nat} {loc loc' : List (Option AV)} {st st' : List AV} {σ σ' : Sg}
theorem b1_len {i : Nat} {v : AV} {l' : List (Option AV)} (h : st1 loc i v = some l') : l'.length = loc.length := by rw [(st1_eq h).1, List.length_set]
theorem b2_len {i : Nat} {v : AV} {l' : List (Option AV)} (h : st2 loc i v = some l') : l'.length = loc.length := by rw [(st2_eq h).1, List.length_set, List.length_set]
set_option maxHeartbeats 1000000 in
theorem bstep_ok {fl : List (Nat × Nat × Nat)} (hfl : ∀ e ∈ fl, FLw own e) {i : Instr} (h : bstep fl i loc st σ = some (loc', st', σ')) (hlen : loc.length = nL) (hd : decode cc pc = .ok (i, ilen i)) : loc'.length = nL ∧ (G l R own cc nL ret post (pc + ilen i) loc' st' σ' → G l R own cc nL ret post pc loc st σ) := by
  subst hlen
  cases i with
  | iload_n k => obtain ⟨x, h1, h2⟩ := bI_ok (h : bI (gl loc k) _ = _); cases h2; exact ⟨rfl, g_iload_n hd h1⟩
  | iload k => obtain ⟨x, h1, h2⟩ := bI_ok (h : bI (gl loc k) _ = _); cases h2; exact ⟨rfl, g_iload hd h1⟩
  | lload_n k => obtain ⟨x, h1, h2⟩ := bL_ok (h : bL (gl loc k) _ = _); cases h2; exact ⟨rfl, g_lload_n hd h1⟩
  | lload k => obtain ⟨x, h1, h2⟩ := bL_ok (h : bL (gl loc k) _ = _); cases h2; exact ⟨rfl, g_lload hd h1⟩
  | aload_n k => obtain ⟨x, h1, h2⟩ := bQ_ok (h : bQ (gl loc k) _ = _); cases h2; exact ⟨rfl, g_aload_n hd h1⟩
  | iconst n => cases (h : some _ = _); exact ⟨rfl, g_iconst hd⟩
  | bipush n => cases (h : some _ = _); exact ⟨rfl, g_bipush hd⟩
  | sipush n => cases (h : some _ = _); exact ⟨rfl, g_sipush hd⟩
  | lconst n => cases (h : some _ = _); exact ⟨rfl, g_lconst hd⟩
  | istore_n k => obtain ⟨x, t, rfl, h⟩ := pI_ok (h : pI st _ = _); obtain ⟨hi, l', hs, h⟩ := b1_ok h; cases h; exact ⟨b1_len hs, g_istore_n hd hi hs⟩
  | istore k => obtain ⟨x, t, rfl, h⟩ := pI_ok (h : pI st _ = _); obtain ⟨hi, l', hs, h⟩ := b1_ok h; cases h; exact ⟨b1_len hs, g_istore hd hi hs⟩
  | lstore_n k => obtain ⟨x, t, rfl, h⟩ := pL_ok (h : pL st _ = _); obtain ⟨hi, l', hs, h⟩ := b2_ok h; cases h; exact ⟨b2_len hs, g_lstore_n hd hi hs⟩
  | lstore k => obtain ⟨x, t, rfl, h⟩ := pL_ok (h : pL st _ = _); obtain ⟨hi, l', hs, h⟩ := b2_ok h; cases h; exact ⟨b2_len hs, g_lstore hd hi hs⟩
  | astore_n k => obtain ⟨x, t, rfl, h⟩ := pQ_ok (h : pQ st _ = _); obtain ⟨hi, l', hs, h⟩ := b1_ok h; cases h; exact ⟨b1_len hs, g_astore_n hd hi hs⟩
  | iinc k n => obtain ⟨x, h1, h⟩ := bI_ok (h : bI (gl loc k) _ = _); obtain ⟨hi, l', hs, h⟩ := b1_ok h; cases h; exact ⟨b1_len hs, g_iinc hd h1 hi hs⟩
  | iadd => obtain ⟨y, t, rfl, h⟩ := pI_ok (h : pI st _ = _); obtain ⟨x, t, rfl, h⟩ := pI_ok h; cases h; exact ⟨rfl, g_iadd hd⟩
  | isub => obtain ⟨y, t, rfl, h⟩ := pI_ok (h : pI st _ = _); obtain ⟨x, t, rfl, h⟩ := pI_ok h; cases h; exact ⟨rfl, g_isub hd⟩
  | imul => obtain ⟨y, t, rfl, h⟩ := pI_ok (h : pI st _ = _); obtain ⟨x, t, rfl, h⟩ := pI_ok h; cases h; exact ⟨rfl, g_imul hd⟩
  | iand => obtain ⟨y, t, rfl, h⟩ := pI_ok (h : pI st _ = _); obtain ⟨x, t, rfl, h⟩ := pI_ok h; cases h; exact ⟨rfl, g_iand hd⟩
  | ior => obtain ⟨y, t, rfl, h⟩ := pI_ok (h : pI st _ = _); obtain ⟨x, t, rfl, h⟩ := pI_ok h; cases h; exact ⟨rfl, g_ior hd⟩
  | ishl => obtain ⟨y, t, rfl, h⟩ := pI_ok (h : pI st _ = _); obtain ⟨x, t, rfl, h⟩ := pI_ok h; cases h; exact ⟨rfl, g_ishl hd⟩
  | ishr => obtain ⟨y, t, rfl, h⟩ := pI_ok (h : pI st _ = _); obtain ⟨x, t, rfl, h⟩ := pI_ok h; cases h; exact ⟨rfl, g_ishr hd⟩
  | ineg => obtain ⟨y, t, rfl, h⟩ := pI_ok (h : pI st _ = _); cases h; exact ⟨rfl, g_ineg hd⟩
  | land => obtain ⟨y, t, rfl, h⟩ := pL_ok (h : pL st _ = _); obtain ⟨x, t, rfl, h⟩ := pL_ok h; cases h; exact ⟨rfl, g_land hd⟩
  | lor => obtain ⟨y, t, rfl, h⟩ := pL_ok (h : pL st _ = _); obtain ⟨x, t, rfl, h⟩ := pL_ok h; cases h; exact ⟨rfl, g_lor hd⟩
  | lcmp => obtain ⟨y, t, rfl, h⟩ := pL_ok (h : pL st _ = _); obtain ⟨x, t, rfl, h⟩ := pL_ok h; cases h; exact ⟨rfl, g_lcmp hd⟩
  | lushr => obtain ⟨y, t, rfl, h⟩ := pI_ok (h : pI st _ = _); obtain ⟨x, t, rfl, h⟩ := pL_ok h; cases h; exact ⟨rfl, g_lushr hd⟩
  | lshl => obtain ⟨y, t, rfl, h⟩ := pI_ok (h : pI st _ = _); obtain ⟨x, t, rfl, h⟩ := pL_ok h; cases h; exact ⟨rfl, g_lshl hd⟩
  | lshr => obtain ⟨y, t, rfl, h⟩ := pI_ok (h : pI st _ = _); obtain ⟨x, t, rfl, h⟩ := pL_ok h; cases h; exact ⟨rfl, g_lshr hd⟩
  | i2l => obtain ⟨y, t, rfl, h⟩ := pI_ok (h : pI st _ = _); cases h; exact ⟨rfl, g_i2l hd⟩
  | l2i => obtain ⟨y, t, rfl, h⟩ := pL_ok (h : pL st _ = _); cases h; exact ⟨rfl, g_l2i hd⟩
  | i2c => obtain ⟨y, t, rfl, h⟩ := pI_ok (h : pI st _ = _); cases h; exact ⟨rfl, g_i2c hd⟩
  | pop => obtain ⟨y, t, rfl, h⟩ := pI_ok (h : pI st _ = _); cases h; exact ⟨rfl, g_popI hd⟩
  | dup2 => obtain ⟨y, t, rfl, h⟩ := pI_ok (h : pI st _ = _); obtain ⟨x, t, rfl, h⟩ := pQ_ok h; cases h; exact ⟨rfl, g_dup2 hd⟩
  | getfield n => obtain ⟨q, t, rfl, ha⟩ := pQ_ok (h : pQ st _ = _); obtain ⟨ci, k, y, g, h1, h2, h3, h4, hb⟩ := bF_ok ha; cases hb; exact ⟨rfl, g_get hfl h1 h2 h3 h4 hd⟩
  | putfield n =>
    obtain ⟨x, t, rfl, ha⟩ := pI_ok (h : pI st _ = _)
    obtain ⟨q, t, rfl, hc⟩ := pQ_ok ha
    obtain ⟨ci, k, y, g, h1, h2, h3, h4, hc2⟩ := bF_ok hc
    obtain ⟨hb, hc3⟩ := bB_ok hc2
    simp only [Bool.and_eq_true, Bool.or_eq_true, Bool.not_eq_true', beq_iff_eq] at hb
    have hg : g = none := by
      rcases g with _ | g
      · rfl
      · exact absurd hb.1 (by simp [isNo])
    subst hg
    cases hc3
    exact ⟨rfl, g_put hfl h1 h2 h3 h4 hb.2.1 hb.2.2 hd⟩
  | iaload => obtain ⟨j, t, rfl, h⟩ := pI_ok (h : pI st _ = _); obtain ⟨q, t, rfl, h⟩ := pQ_ok h; obtain ⟨n, h1, h2, h⟩ := bA_ok h; cases h; exact ⟨rfl, g_iald h1 h2 hd⟩
  | iastore => obtain ⟨x, t, rfl, h⟩ := pI_ok (h : pI st _ = _); obtain ⟨j, t, rfl, h⟩ := pI_ok h; obtain ⟨q, t, rfl, h⟩ := pQ_ok h; obtain ⟨n, h1, h2, h⟩ := bA_ok h; cases h; exact ⟨rfl, g_iast h1 h2 hd⟩
  | dup =>
    have ha : bD loc st σ = some (loc', st', σ') := h
    clear h
    unfold bD at ha
    split at ha
    · cases ha; exact ⟨rfl, g_dupI hd⟩
    · cases ha; exact ⟨rfl, g_dupR hd⟩
    · cases ha
  | _ => cases (h : (none : Option BR) = some (loc', st', σ'))
def bgo (pc : Nat) (off : Int) : Option Nat := match (pc : Int) + off with
  | .ofNat t => some t
  | _ => none
def bex (fl : List (Nat × Nat × Nat)) : List (Nat × Instr) → Nat → List (Option AV) → List AV → Sg → Option (Nat × BR)
  | [], pc, loc, st, σ => some (pc, loc, st, σ)
  | e :: r, pc, loc, st, σ => cond (Nat.beq e.1 pc) (match e.2 with
    | .goto off => (match bgo pc off with
      | some t => bex fl r t loc st σ
      | none => none)
    | i => (match bstep fl i loc st σ with
      | some x => bex fl r (pc + ilen i) x.1 x.2.1 x.2.2
      | none => none)) none
def chk (cc : ByteArray) (e : Nat × Instr) : Bool := match decode cc e.1 with
  | .ok r => decide (r = (e.2, ilen e.2))
  | .error _ => false
theorem chk_ok {e : Nat × Instr} (h : chk cc e = true) : decode cc e.1 = .ok (e.2, ilen e.2) := by
  unfold chk at h
  split at h
  · rename_i r hr
    rw [hr, of_decide_eq_true h]
  · cases h
theorem bex_ok {fl : List (Nat × Nat × Nat)} (hfl : ∀ e ∈ fl, FLw own e) : ∀ (is : List (Nat × Instr)) (pc : Nat) (loc : List (Option AV)) (st : List AV) (σ : Sg) (pc' : Nat) (loc' : List (Option AV)) (st' : List AV) (σ' : Sg), is.all (chk cc) = true → loc.length = nL → bex fl is pc loc st σ = some (pc', loc', st', σ') → G l R own cc nL ret post pc' loc' st' σ' → G l R own cc nL ret post pc loc st σ
  | [], pc, loc, st, σ, pc', loc', st', σ', _, _, h, k => by
    cases h
    exact k
  | e :: r, pc, loc, st, σ, pc', loc', st', σ', hc, hlen, h, k => by
    rw [List.all_cons, Bool.and_eq_true] at hc
    have hd := chk_ok hc.1
    obtain ⟨q, i⟩ := e
    unfold bex at h
    cases hb : Nat.beq q pc with
    | false => simp only [hb] at h; cases h
    | true =>
      have e1 : q = pc := Nat.eq_of_beq_eq_true hb
      subst e1
      simp only [hb, cond_true] at h
      split at h
      · rename_i off
        split at h
        · rename_i t ht
          have htt : (q : Int) + off = (t : Int) := by
            unfold bgo at ht
            split at ht
            · rename_i z hz
              cases ht
              exact hz
            · cases ht
          exact g_goto hd htt (bex_ok hfl r t loc st σ pc' loc' st' σ' hc.2 hlen h k)
        · cases h
      · split at h
        · rename_i x hx
          obtain ⟨l1, g1⟩ := bstep_ok (l := l) (R := R) (ret := ret) (post := post) (loc' := x.1) (st' := x.2.1) (σ' := x.2.2) hfl hx hlen hd
          exact g1 (bex_ok hfl r _ x.1 x.2.1 x.2.2 pc' loc' st' σ' hc.2 l1 h k)
        · cases h
theorem g_blk {fl : List (Nat × Nat × Nat)} (hfl : ∀ e ∈ fl, FLw own e) (is : List (Nat × Instr)) {pc' : Nat} (hc : is.all (chk cc) = true) (hlen : loc.length = nL) (h : bex fl is pc loc st σ = some (pc', loc', st', σ')) (k : G l R own cc nL ret post pc' loc' st' σ') : G l R own cc nL ret post pc loc st σ := bex_ok hfl is pc loc st σ pc' loc' st' σ' hc hlen h k
theorem g_max {idx : Nat} {x y : Int32} (hl : Cond.methodLink own idx Lib.Math.max.name ∈ TG) (hR : 1 ≤ R.frames ∧ (st.map aCat).sum + 13 ≤ R.locals) (hd : decode cc pc = .ok (.invokestatic idx, 3)) (k : G l R own cc nL ret post (pc + 3) loc (vI (if x < y then y else x) :: st) σ) : G l R own cc nL ret post pc loc (vI y :: vI x :: st) σ := by
  intro E p e s m args below meth c H locs ls C hσ hst hloc hlen hlv hP hS
  exact va_mmax C.1 C.2.1 (C.2.2.1.trans hlv.1.symm) C.2.2.2.1 (C.2.2.2.2.1 _ hl) (C.2.2.2.2.1 _ j_max.1) (C.2.2.2.2.1 _ j_max.2.1) (C.2.2.2.2.1 _ j_max.2.2) hR.1 (by rw [cat_sum]; exact hR.2) (Nat.zero_le _) (Nat.zero_le _) hd (k E p e s m args below meth c H locs ls C hσ (ok_cn (a := vI _) trivial (ok_tl (ok_tl hst))) hloc hlen hlv hP hS)
theorem g_min {idx : Nat} {x y : Int32} (hl : Cond.methodLink own idx Lib.Math.min.name ∈ TG) (hR : 1 ≤ R.frames ∧ (st.map aCat).sum + 13 ≤ R.locals) (hd : decode cc pc = .ok (.invokestatic idx, 3)) (k : G l R own cc nL ret post (pc + 3) loc (vI (if y < x then y else x) :: st) σ) : G l R own cc nL ret post pc loc (vI y :: vI x :: st) σ := by
  intro E p e s m args below meth c H locs ls C hσ hst hloc hlen hlv hP hS
  refine va_mmin C.1 C.2.1 (C.2.2.1.trans hlv.1.symm) C.2.2.2.1 (C.2.2.2.2.1 _ hl) (C.2.2.2.2.1 _ j_min.1) (C.2.2.2.2.1 _ j_min.2.1) (C.2.2.2.2.1 _ j_min.2.2) hR.1 (by rw [cat_sum]; exact hR.2) (Nat.zero_le _) (Nat.zero_le _) hd (k E p e s m args below meth c H locs ls C hσ (ok_cn (a := vI _) trivial (ok_tl (ok_tl hst))) hloc hlen hlv hP hS)
theorem g_copy {idx n0 n1 : Nat} {q0 q1 : Lo} {sp dp n : Int32} (hl : Cond.methodLink own idx arraycopyName ∈ TG) (hs0 : shp q0 = .inr (0, n0)) (hs1 : shp q1 = .inr (0, n1)) (h1 : ¬ sp < 0) (h2 : ¬ dp < 0) (h3 : ¬ n < 0) (h4 : sp.toNatClampNeg + n.toNatClampNeg ≤ n0) (h5 : dp.toNatClampNeg + n.toNatClampNeg ≤ n1)
    (hR : 1 ≤ R.frames ∧ (st.map aCat).sum + (nativeFrameWords "java/lang/System" "arraycopy" 5 + 11) ≤ R.locals) (hd : decode cc pc = .ok (.invokestatic idx, 3))
    (k : G l R own cc nL ret post (pc + 3) loc st (fun p => if p = q1 then va_cpy (σ.1 q0) (σ.1 q1) sp.toNatClampNeg dp.toNatClampNeg n.toNatClampNeg else σ.1 p, σ.2)) : G l R own cc nL ret post pc loc (vI n :: vI dp :: vR q1 :: vI sp :: vR q0 :: st) σ := by
  intro E p e s m args below meth c H locs ls C hσ hst hloc hlen hlv hP hS
  obtain ⟨hx, hb, hml, hown, hts, hr, hlk, hK, hE⟩ := id C
  have hq1 : q1 ∈ allLo := ok_hd (ok_tl (ok_tl hst))
  have hq0 : q0 ∈ allLo := ok_hd (ok_tl (ok_tl (ok_tl (ok_tl hst))))
  obtain ⟨i0, hi0⟩ := List.getElem?_of_mem hq0
  obtain ⟨i1, hi1⟩ := List.getElem?_of_mem hq1
  have hg0 : (wsOf E σ)[i0]? = some (E.1 q0, .inl (E.2.2 0, n0, .inl (σ.1 q0))) := by rw [ws_get hi0, entry_int hs0]
  have hg1 : (wsOf E σ)[i1]? = some (E.1 q1, .inl (E.2.2 0, n1, .inl (σ.1 q1))) := by rw [ws_get hi1, entry_int hs1]
  refine va_copyi hx hb (hml.trans hlv.1.symm) hown (hts _ hl) (hts _ j_cpy.1) (hts _ j_cpy.2.1) (hts _ j_cpy.2.2) hK.1 hP (ws_D hE) hS i0 i1 0 0 hg0 hg1 rfl rfl rfl h1 h2 h3 h4 h5 (fun _ _ => rfl) hR.1 (by rw [cat_sum]; exact hR.2) hd (fun H1 locs1 hP1 hD1 hS1 => ?_)
  have hset : (wsOf E σ).set i1 (E.1 q1, .inl (E.2.2 0, n1, .inl (va_cpy (σ.1 q0) (σ.1 q1) sp.toNatClampNeg dp.toNatClampNeg n.toNatClampNeg))) = wsOf E (fun p => if p = q1 then va_cpy (σ.1 q0) (σ.1 q1) sp.toNatClampNeg dp.toNatClampNeg n.toNatClampNeg else σ.1 p, σ.2) := by
    have h1 := ws_set (E := E) (σ := σ) (σ' := (fun p => if p = q1 then va_cpy (σ.1 q0) (σ.1 q1) sp.toNatClampNeg dp.toNatClampNeg n.toNatClampNeg else σ.1 p, σ.2)) hi1 (fun p hp => by
      unfold entry
      simp only [if_neg hp])
    rw [entry_int hs1] at h1
    simp only [if_true] at h1
    exact h1
  rw [hset] at hP1
  exact k E p e s m args below meth c H1 locs1 ls C hσ (ok_tl (ok_tl (ok_tl (ok_tl (ok_tl hst))))) hloc hlen hlv hP1 hS1
end BLK
