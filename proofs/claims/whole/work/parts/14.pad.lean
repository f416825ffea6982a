/-! PAD: its text as a value; contracts (laid by wip/whole/mk14.py) -/
abbrev PV : Type := Nat × (Nat → Int32)
def pN (σ : Sg) : Nat := (σ.1 (5, 0, 0) 1).toNatClampNeg
def pv (σ : Sg) : PV := (pN σ, fun i => if i < pN σ then σ.1 (6, 0, 0) i else 0)
def PadOK (σ : Sg) : Prop := pN σ ≤ 60 ∧ σ.1 (5, 0, 0) 1 = nI (pN σ)
def eonS (P : PV) (s : Nat) : Nat := if ¬ isInS (P.2 s) 48 57 = 0 then (if P.2 s = 48 then s + 1 else if isInS (P.2 (s + 1)) 48 57 = 0 then s + 1 else s + 2) else s
def numF (P : PV) : Nat → Nat → Int32 → Int32
  | 0, _, a => a
  | k + 1, i, a => numF P k (i + 1) (10 * a + P.2 i - 48)
def numS (P : PV) (s e : Nat) : Int32 := numF P (e - s) s 0
def shr8 (x : Int64) : Int64 := (x.toUInt64 >>> ((8 : Int32).toInt64.toUInt64 &&& Int64.toUInt64 63)).toInt64
def cntC : Nat → Int64 → Int32 → Int32
  | 0, _, m => m
  | k + 1, x, m => if lg_cmp x 0 = 0 then m else if ¬ isInS (x &&& 255).toInt32 33 126 = 0 then cntC k (shr8 x) (m + 1) else 0
theorem eon_le (P : PV) (s : Nat) : s ≤ eonS P s ∧ eonS P s ≤ s + 2 := by
  unfold eonS
  split
  · split
    · omega
    · split <;> omega
  · omega
theorem nI_2 (a : Nat) : nI a + 2 = nI (a + 2) := nI_add a 2
set_option maxHeartbeats 2000000 in
theorem c_X2_characterAt (l : Launch) {σ : Sg} {i : Nat} (hP : PadOK σ) (hi : i < 2 ^ 30) : Con l 0 yX2_characterAt cX2_characterAt 2 (some .int) [vR (5, 0, 0), vI (nI i)] σ (pureP ((pv σ).2 i) σ) := by
  refine con_of pn_X2_characterAt (Nat.le_of_ble_eq_true rfl) (fun hPK hok => ?_)
  show G l (Rm 0) RX2 cX2_characterAt 2 (some .int) _ 0 [some (vR (5, 0, 0)), some (vI (nI i))] [] σ
  refine g_blk (pc' := 1) (loc' := [some (vR (5, 0, 0)), some (vI (nI i))]) (st' := [vI (nI i)]) (σ' := σ) fl2_ok [(0, .iload_n 1)] (by decide +kernel) rfl rfl ?_
  refine g_if_lt (off := 29) (tgt := 30) (by decide +kernel) (by decide) (fun zc1 => ?_) (fun zc1 => ?_)
  · exact absurd zc1 (nI_pos (by omega))
  · refine g_blk (pc' := 9) (loc' := [some (vR (5, 0, 0)), some (vI (nI i))]) (st' := [vI (σ.1 (5, 0, 0) 1), vI (nI i)]) (σ' := σ) fl2_ok [(4, .iload_n 1), (5, .aload_n 0), (6, .getfield 30)] (by decide +kernel) rfl rfl ?_
    refine g_icmp_ge (off := 21) (tgt := 30) (by decide +kernel) (by decide) (fun zc9 => ?_) (fun zc9 => ?_)
    · have hm := hP.1
      rw [hP.2, nI_leI (by omega) (by omega)] at zc9
      refine g_blk (pc' := 31) (loc' := [some (vR (5, 0, 0)), some (vI (nI i))]) (st' := [vI (0 : Int32)]) (σ' := σ) fl2_ok [(30, .iconst 0)] (by decide +kernel) rfl rfl ?_
      exact g_iret (by decide +kernel) ⟨by show _ = some (vI (if i < pN σ then _ else _)); rw [if_neg (by omega)], rfl⟩
    · have hm := hP.1
      rw [hP.2, nI_leI (by omega) (by omega)] at zc9
      refine g_blk (pc' := 17) (loc' := [some (vR (5, 0, 0)), some (vI (nI i))]) (st' := [vR (6, 0, 0), vI (nI i)]) (σ' := σ) fl2_ok [(12, .iload_n 1), (13, .aload_n 0), (14, .getfield 9)] (by decide +kernel) rfl rfl ?_
      refine g_alen (x := (1, 60)) rfl (Nat.le_of_ble_eq_true rfl) (by decide +kernel) ?_
      refine g_icmp_ge (off := 12) (tgt := 30) (by decide +kernel) (by decide) (fun zc18 => ?_) (fun zc18 => ?_)
      · exact absurd zc18 (nI_ge (b := 60) (by omega) (by decide))
      · refine g_blk (pc' := 26) (loc' := [some (vR (5, 0, 0)), some (vI (nI i))]) (st' := [vI (nI i), vR (6, 0, 0)]) (σ' := σ) fl2_ok [(21, .aload_n 0), (22, .getfield 9), (25, .iload_n 1)] (by decide +kernel) rfl rfl ?_
        refine g_cald (n := 60) rfl (vp_in_nI (by omega) (by decide)) (by decide +kernel) ?_
        rw [nI_clamp (by omega)]
        refine g_blk (pc' := 31) (loc' := [some (vR (5, 0, 0)), some (vI (nI i))]) (st' := [vI (σ.1 (6, 0, 0) i)]) (σ' := σ) fl2_ok [(27, .goto 4)] (by decide +kernel) rfl rfl ?_
        exact g_iret (by decide +kernel) ⟨by show _ = some (vI (if i < pN σ then _ else _)); rw [if_pos (by omega)], rfl⟩
set_option maxHeartbeats 2000000 in
theorem c_X2_isDigitAt (l : Launch) {σ : Sg} {i : Nat} (hP : PadOK σ) (hi : i < 2 ^ 30) : Con l 1 yX2_isDigitAt cX2_isDigitAt 2 (some .boolean) [vR (5, 0, 0), vI (nI i)] σ (pureP (isInS ((pv σ).2 i) 48 57) σ) := by
  refine con_of pn_X2_isDigitAt (Nat.le_of_ble_eq_true rfl) (fun hPK hok => ?_)
  show G l (Rm 1) RX2 cX2_isDigitAt 2 (some .boolean) _ 0 [some (vR (5, 0, 0)), some (vI (nI i))] [] σ
  refine g_blk (pc' := 2) (loc' := [some (vR (5, 0, 0)), some (vI (nI i))]) (st' := [vI (nI i), vR (5, 0, 0)]) (σ' := σ) fl2_ok [(0, .aload_n 0), (1, .iload_n 1)] (by decide +kernel) rfl rfl ?_
  refine g_callVp (5, 0, 0) [vI (nI i)] [] vl_RX2_34 mi_X2_characterAt (c_X2_characterAt l (i := i) hP (by omega)) rfl rfl rfl rfl ⟨Nat.le_of_ble_eq_true rfl, Nat.le_of_ble_eq_true rfl⟩ rfl (Nat.le_of_ble_eq_true rfl) (by decide +kernel) ?_
  refine g_blk (pc' := 9) (loc' := [some (vR (5, 0, 0)), some (vI (nI i))]) (st' := [vI (57 : Int32), vI (48 : Int32), vI ((pv σ).2 i)]) (σ' := σ) fl2_ok [(5, .bipush 48), (7, .bipush 57)] (by decide +kernel) rfl rfl ?_
  refine g_callNp (idx := 26) [vI ((pv σ).2 i), vI (48 : Int32), vI (57 : Int32)] [] (by decide +kernel) nl_X4_isIn mi_X4_isIn (c_X4_isIn l ((pv σ).2 i) (48 : Int32) (57 : Int32)) rfl ⟨Nat.le_of_ble_eq_true rfl, Nat.le_of_ble_eq_true rfl⟩ rfl (Nat.le_of_ble_eq_true rfl) (by decide +kernel) ?_
  exact g_zret (by decide +kernel) (isInS_bit _ _ _) ⟨rfl, rfl⟩
set_option maxHeartbeats 2000000 in
theorem c_X2_endOfNumber (l : Launch) {σ : Sg} {i : Nat} (hP : PadOK σ) (hi : i < 2 ^ 29) : Con l 2 yX2_endOfNumber cX2_endOfNumber 3 (some .int) [vR (5, 0, 0), vI (nI i)] σ (pureP (nI (eonS (pv σ) i)) σ) := by
  refine con_of pn_X2_endOfNumber (Nat.le_of_ble_eq_true rfl) (fun hPK hok => ?_)
  show G l (Rm 2) RX2 cX2_endOfNumber 3 (some .int) _ 0 [some (vR (5, 0, 0)), some (vI (nI i)), none] [] σ
  refine g_blk (pc' := 2) (loc' := [some (vR (5, 0, 0)), some (vI (nI i)), none]) (st' := [vI (nI i), vR (5, 0, 0)]) (σ' := σ) fl2_ok [(0, .aload_n 0), (1, .iload_n 1)] (by decide +kernel) rfl rfl ?_
  refine g_callVp (5, 0, 0) [vI (nI i)] [] vl_RX2_59 mi_X2_isDigitAt (c_X2_isDigitAt l (i := i) hP (by omega)) rfl rfl rfl rfl ⟨Nat.le_of_ble_eq_true rfl, Nat.le_of_ble_eq_true rfl⟩ rfl (Nat.le_of_ble_eq_true rfl) (by decide +kernel) ?_
  refine g_if_ne (off := 5) (tgt := 10) (by decide +kernel) (by decide) (fun zc5 => ?_) (fun zc5 => ?_)
  · refine g_blk (pc' := 12) (loc' := [some (vR (5, 0, 0)), some (vI (nI i)), none]) (st' := [vI (nI i), vR (5, 0, 0)]) (σ' := σ) fl2_ok [(10, .aload_n 0), (11, .iload_n 1)] (by decide +kernel) rfl rfl ?_
    refine g_callVp (5, 0, 0) [vI (nI i)] [] vl_RX2_34 mi_X2_characterAt (c_X2_characterAt l (i := i) hP (by omega)) rfl rfl rfl rfl ⟨Nat.le_of_ble_eq_true rfl, Nat.le_of_ble_eq_true rfl⟩ rfl (Nat.le_of_ble_eq_true rfl) (by decide +kernel) ?_
    refine g_blk (pc' := 17) (loc' := [some (vR (5, 0, 0)), some (vI (nI i)), none]) (st' := [vI (48 : Int32), vI ((pv σ).2 i)]) (σ' := σ) fl2_ok [(15, .bipush 48)] (by decide +kernel) rfl rfl ?_
    refine g_icmp_eq (off := 7) (tgt := 24) (by decide +kernel) (by decide) (fun zc17 => ?_) (fun zc17 => ?_)
    · refine g_blk (pc' := 27) (loc' := [some (vR (5, 0, 0)), some (vI (nI i)), some (vI (0 : Int32))]) (st' := [vI (0 : Int32)]) (σ' := σ) fl2_ok [(24, .iconst 0), (25, .istore_n 2), (26, .iload_n 2)] (by decide +kernel) rfl rfl ?_
      refine g_if_eq (off := 19) (tgt := 46) (by decide +kernel) (by decide) (fun zc27 => ?_) (fun zc27 => ?_)
      · refine g_blk (pc' := 49) (loc' := [some (vR (5, 0, 0)), some (vI (nI i)), some (vI (0 : Int32))]) (st' := [vI ((nI i) + (1 : Int32))]) (σ' := σ) fl2_ok [(46, .iload_n 1), (47, .iconst 1), (48, .iadd)] (by decide +kernel) rfl rfl ?_
        exact g_iret (by decide +kernel) ⟨by rw [eonS, if_pos zc5, if_pos zc17, nI_1], rfl⟩
      · exact absurd zc27 (by decide)
    · refine g_blk (pc' := 27) (loc' := [some (vR (5, 0, 0)), some (vI (nI i)), some (vI (1 : Int32))]) (st' := [vI (1 : Int32)]) (σ' := σ) fl2_ok [(20, .iconst 1), (21, .goto 4), (25, .istore_n 2), (26, .iload_n 2)] (by decide +kernel) rfl rfl ?_
      refine g_if_eq (off := 19) (tgt := 46) (by decide +kernel) (by decide) (fun zc27 => ?_) (fun zc27 => ?_)
      · exact absurd zc27 (by decide)
      · refine g_blk (pc' := 34) (loc' := [some (vR (5, 0, 0)), some (vI (nI i)), some (vI (1 : Int32))]) (st' := [vI ((nI i) + (1 : Int32)), vR (5, 0, 0)]) (σ' := σ) fl2_ok [(30, .aload_n 0), (31, .iload_n 1), (32, .iconst 1), (33, .iadd)] (by decide +kernel) rfl rfl ?_
        rw [nI_1]
        refine g_callVp (5, 0, 0) [vI (nI (i + 1))] [] vl_RX2_59 mi_X2_isDigitAt (c_X2_isDigitAt l (i := (i + 1)) hP (by omega)) rfl rfl rfl rfl ⟨Nat.le_of_ble_eq_true rfl, Nat.le_of_ble_eq_true rfl⟩ rfl (Nat.le_of_ble_eq_true rfl) (by decide +kernel) ?_
        refine g_if_eq (off := 9) (tgt := 46) (by decide +kernel) (by decide) (fun zc37 => ?_) (fun zc37 => ?_)
        · refine g_blk (pc' := 49) (loc' := [some (vR (5, 0, 0)), some (vI (nI i)), some (vI (1 : Int32))]) (st' := [vI ((nI i) + (1 : Int32))]) (σ' := σ) fl2_ok [(46, .iload_n 1), (47, .iconst 1), (48, .iadd)] (by decide +kernel) rfl rfl ?_
          exact g_iret (by decide +kernel) ⟨by rw [eonS, if_pos zc5, if_neg zc17, if_pos zc37, nI_1], rfl⟩
        · refine g_blk (pc' := 49) (loc' := [some (vR (5, 0, 0)), some (vI (nI i)), some (vI (1 : Int32))]) (st' := [vI ((nI i) + (2 : Int32))]) (σ' := σ) fl2_ok [(40, .iload_n 1), (41, .iconst 2), (42, .iadd), (43, .goto 6)] (by decide +kernel) rfl rfl ?_
          exact g_iret (by decide +kernel) ⟨by rw [eonS, if_pos zc5, if_neg zc17, if_neg zc37, nI_2], rfl⟩
  · refine g_blk (pc' := 9) (loc' := [some (vR (5, 0, 0)), some (vI (nI i)), none]) (st' := [vI (nI i)]) (σ' := σ) fl2_ok [(8, .iload_n 1)] (by decide +kernel) rfl rfl ?_
    exact g_iret (by decide +kernel) ⟨by rw [eonS, if_neg (not_not_intro zc5)], rfl⟩
set_option maxHeartbeats 2000000 in
theorem lp_X2_numberIn (l : Launch) {σ : Sg} {e : Nat} (hP : PadOK σ) (he : e < 2 ^ 30) : ∀ (k i : Nat) (a : Int32), i + k = e → G l (Rm 1) RX2 cX2_numberIn 5 (some .int) (pureP (numF (pv σ) k i a) σ) 5 [some (vR (5, 0, 0)), none, some (vI (nI e)), some (vI a), some (vI (nI i))] [] σ := by
  intro k
  induction k with
  | zero =>
    intro i a hk
    refine g_blk (pc' := 8) (loc' := [some (vR (5, 0, 0)), none, some (vI (nI e)), some (vI a), some (vI (nI i))]) (st' := [vI (nI e), vI (nI i)]) (σ' := σ) fl2_ok [(5, .iload 4), (7, .iload_n 2)] (by decide +kernel) rfl rfl ?_
    refine g_icmp_ge (off := 24) (tgt := 32) (by decide +kernel) (by decide) (fun zc8 => ?_) (fun zc8 => ?_)
    · rw [nI_leI (by omega) (by omega)] at zc8
      refine g_blk (pc' := 33) (loc' := [some (vR (5, 0, 0)), none, some (vI (nI e)), some (vI a), some (vI (nI i))]) (st' := [vI a]) (σ' := σ) fl2_ok [(32, .iload_n 3)] (by decide +kernel) rfl rfl ?_
      exact g_iret (by decide +kernel) ⟨by rw [numF], rfl⟩
    · rw [nI_leI (by omega) (by omega)] at zc8
      exact absurd (by omega) zc8
  | succ k ih =>
    intro i a hk
    refine g_blk (pc' := 8) (loc' := [some (vR (5, 0, 0)), none, some (vI (nI e)), some (vI a), some (vI (nI i))]) (st' := [vI (nI e), vI (nI i)]) (σ' := σ) fl2_ok [(5, .iload 4), (7, .iload_n 2)] (by decide +kernel) rfl rfl ?_
    refine g_icmp_ge (off := 24) (tgt := 32) (by decide +kernel) (by decide) (fun zc8 => ?_) (fun zc8 => ?_)
    · rw [nI_leI (by omega) (by omega)] at zc8
      exact absurd zc8 (by omega)
    · rw [nI_leI (by omega) (by omega)] at zc8
      refine g_blk (pc' := 18) (loc' := [some (vR (5, 0, 0)), none, some (vI (nI e)), some (vI a), some (vI (nI i))]) (st' := [vI (nI i), vR (5, 0, 0), vI ((10 : Int32) * a)]) (σ' := σ) fl2_ok [(11, .bipush 10), (13, .iload_n 3), (14, .imul), (15, .aload_n 0), (16, .iload 4)] (by decide +kernel) rfl rfl ?_
      refine g_callVp (5, 0, 0) [vI (nI i)] [vI ((10 : Int32) * a)] vl_RX2_34 mi_X2_characterAt (c_X2_characterAt l (i := i) hP (by omega)) rfl rfl rfl rfl ⟨Nat.le_of_ble_eq_true rfl, Nat.le_of_ble_eq_true rfl⟩ rfl (Nat.le_of_ble_eq_true rfl) (by decide +kernel) ?_
      refine g_blk (pc' := 5) (loc' := [some (vR (5, 0, 0)), none, some (vI (nI e)), some (vI ((((10 : Int32) * a) + ((pv σ).2 i)) - (48 : Int32))), some (vI ((nI i) + (1 : Int32)))]) (st' := []) (σ' := σ) fl2_ok [(21, .iadd), (22, .bipush 48), (24, .isub), (25, .istore_n 3), (26, .iinc 4 1), (29, .goto (-24))] (by decide +kernel) rfl rfl ?_
      rw [numF, nI_1]
      exact ih (i + 1) _ (by omega)
set_option maxHeartbeats 2000000 in
theorem c_X2_numberIn (l : Launch) {σ : Sg} {i j : Nat} (hP : PadOK σ) (hij : i ≤ j) (hj : j < 2 ^ 30) : Con l 1 yX2_numberIn cX2_numberIn 5 (some .int) [vR (5, 0, 0), vI (nI i), vI (nI j)] σ (pureP (numS (pv σ) i j) σ) := by
  refine con_of pn_X2_numberIn (Nat.le_of_ble_eq_true rfl) (fun hPK hok => ?_)
  show G l (Rm 1) RX2 cX2_numberIn 5 (some .int) _ 0 [some (vR (5, 0, 0)), some (vI (nI i)), some (vI (nI j)), none, none] [] σ
  refine g_blk (pc' := 5) (loc' := [some (vR (5, 0, 0)), some (vI (nI i)), some (vI (nI j)), some (vI (0 : Int32)), some (vI (nI i))]) (st' := []) (σ' := σ) fl2_ok [(0, .iconst 0), (1, .istore_n 3), (2, .iload_n 1), (3, .istore 4)] (by decide +kernel) rfl rfl ?_
  refine g_sub (loc' := [some (vR (5, 0, 0)), none, some (vI (nI j)), some (vI 0), some (vI (nI i))]) ⟨Or.inr rfl, Or.inl rfl, Or.inr rfl, Or.inr rfl, Or.inr rfl, trivial⟩ ?_
  exact lp_X2_numberIn l hP hj (j - i) i 0 (by omega)
set_option maxHeartbeats 2000000 in
theorem lp_X2_countCharacters (l : Launch) {σ : Sg} : ∀ (k i : Nat) (x : Int64) (m : Int32), i + k = 8 → G l (Rm 1) RX2 cX2_countCharacters 7 (some .int) (pureP (cntC k x m) σ) 8 [none, none, some (vL x), none, some (vI m), some (vI (nI i)), none] [] σ := by
  intro k
  induction k with
  | zero =>
    intro i x m hk
    refine g_blk (pc' := 12) (loc' := [none, none, some (vL x), none, some (vI m), some (vI (nI i)), none]) (st' := [vI (8 : Int32), vI (nI i)]) (σ' := σ) fl2_ok [(8, .iload 5), (10, .bipush 8)] (by decide +kernel) rfl rfl ?_
    refine g_icmp_ge (off := 45) (tgt := 57) (by decide +kernel) (by decide) (fun zc12 => ?_) (fun zc12 => ?_)
    · have h8b : (8 : Int32) = nI 8 := rfl
      rw [h8b, nI_leI (by decide) (by omega)] at zc12
      refine g_blk (pc' := 59) (loc' := [none, none, some (vL x), none, some (vI m), some (vI (nI i)), none]) (st' := [vI m]) (σ' := σ) fl2_ok [(57, .iload 4)] (by decide +kernel) rfl rfl ?_
      exact g_iret (by decide +kernel) ⟨by rw [cntC], rfl⟩
    · have h8b : (8 : Int32) = nI 8 := rfl
      rw [h8b, nI_leI (by decide) (by omega)] at zc12
      exact absurd (by omega) zc12
  | succ k ih =>
    intro i x m hk
    refine g_blk (pc' := 12) (loc' := [none, none, some (vL x), none, some (vI m), some (vI (nI i)), none]) (st' := [vI (8 : Int32), vI (nI i)]) (σ' := σ) fl2_ok [(8, .iload 5), (10, .bipush 8)] (by decide +kernel) rfl rfl ?_
    refine g_icmp_ge (off := 45) (tgt := 57) (by decide +kernel) (by decide) (fun zc12 => ?_) (fun zc12 => ?_)
    · have h8b : (8 : Int32) = nI 8 := rfl
      rw [h8b, nI_leI (by decide) (by omega)] at zc12
      exact absurd zc12 (by omega)
    · have h8b : (8 : Int32) = nI 8 := rfl
      rw [h8b, nI_leI (by decide) (by omega)] at zc12
      refine g_blk (pc' := 18) (loc' := [none, none, some (vL x), none, some (vI m), some (vI (nI i)), none]) (st' := [vI (lg_cmp x (0 : Int64))]) (σ' := σ) fl2_ok [(15, .lload_n 2), (16, .lconst 0), (17, .lcmp)] (by decide +kernel) rfl rfl ?_
      refine g_if_eq (off := 39) (tgt := 57) (by decide +kernel) (by decide) (fun zc18 => ?_) (fun zc18 => ?_)
      · refine g_blk (pc' := 59) (loc' := [none, none, some (vL x), none, some (vI m), some (vI (nI i)), none]) (st' := [vI m]) (σ' := σ) fl2_ok [(57, .iload 4)] (by decide +kernel) rfl rfl ?_
        exact g_iret (by decide +kernel) ⟨by rw [cntC, if_pos zc18], rfl⟩
      · refine g_blk (pc' := 22) (loc' := [none, none, some (vL x), none, some (vI m), some (vI (nI i)), none]) (st' := [vL x]) (σ' := σ) fl2_ok [(21, .lload_n 2)] (by decide +kernel) rfl rfl ?_
        refine g_ldc2 (v := 255) kl_RX2 (by decide +kernel) ?_
        refine g_blk (pc' := 35) (loc' := [none, none, some (vL x), none, some (vI m), some (vI (nI i)), some (vI ((x &&& (255 : Int64)).toInt32))]) (st' := [vI (126 : Int32), vI (33 : Int32), vI ((x &&& (255 : Int64)).toInt32)]) (σ' := σ) fl2_ok [(25, .land), (26, .l2i), (27, .istore 6), (29, .iload 6), (31, .bipush 33), (33, .bipush 126)] (by decide +kernel) rfl rfl ?_
        refine g_callNp (idx := 26) [vI ((x &&& (255 : Int64)).toInt32), vI (33 : Int32), vI (126 : Int32)] [] (by decide +kernel) nl_X4_isIn mi_X4_isIn (c_X4_isIn l ((x &&& (255 : Int64)).toInt32) (33 : Int32) (126 : Int32)) rfl ⟨Nat.le_of_ble_eq_true rfl, Nat.le_of_ble_eq_true rfl⟩ rfl (Nat.le_of_ble_eq_true rfl) (by decide +kernel) ?_
        refine g_if_ne (off := 5) (tgt := 43) (by decide +kernel) (by decide) (fun zc38 => ?_) (fun zc38 => ?_)
        · refine g_blk (pc' := 8) (loc' := [none, none, some (vL ((x.toUInt64 >>> ((8 : Int32).toInt64.toUInt64 &&& Int64.toUInt64 63)).toInt64)), none, some (vI (m + (1 : Int32))), some (vI ((nI i) + (1 : Int32))), some (vI ((x &&& (255 : Int64)).toInt32))]) (st' := []) (σ' := σ) fl2_ok [(43, .iinc 4 1), (46, .lload_n 2), (47, .bipush 8), (49, .lushr), (50, .lstore_n 2), (51, .iinc 5 1), (54, .goto (-46))] (by decide +kernel) rfl rfl ?_
          rw [cntC, if_neg zc18, if_pos zc38, nI_1]
          exact g_sub (loc' := [none, none, some (vL (shr8 x)), none, some (vI (m + 1)), some (vI (nI (i + 1))), none]) ⟨Or.inl rfl, Or.inl rfl, Or.inr rfl, Or.inr rfl, Or.inr rfl, Or.inr rfl, Or.inl rfl, trivial⟩ (ih (i + 1) (shr8 x) (m + 1) (by omega))
        · refine g_blk (pc' := 42) (loc' := [none, none, some (vL x), none, some (vI m), some (vI (nI i)), some (vI ((x &&& (255 : Int64)).toInt32))]) (st' := [vI (0 : Int32)]) (σ' := σ) fl2_ok [(41, .iconst 0)] (by decide +kernel) rfl rfl ?_
          exact g_iret (by decide +kernel) ⟨by rw [cntC, if_neg zc18, if_neg (not_not_intro zc38)], rfl⟩
set_option maxHeartbeats 2000000 in
theorem c_X2_countCharacters (l : Launch) {σ : Sg} {x : Int64}  : Con l 1 yX2_countCharacters cX2_countCharacters 7 (some .int) [vL x] σ (pureP (cntC 8 x 0) σ) := by
  refine con_of pn_X2_countCharacters (Nat.le_of_ble_eq_true rfl) (fun hPK hok => ?_)
  show G l (Rm 1) RX2 cX2_countCharacters 7 (some .int) _ 0 [some (vL x), none, none, none, none, none, none] [] σ
  refine g_blk (pc' := 8) (loc' := [some (vL x), none, some (vL x), none, some (vI (0 : Int32)), some (vI (0 : Int32)), none]) (st' := []) (σ' := σ) fl2_ok [(0, .lload_n 0), (1, .lstore_n 2), (2, .iconst 0), (3, .istore 4), (5, .iconst 0), (6, .istore 5)] (by decide +kernel) rfl rfl ?_
  refine g_sub (loc' := [none, none, some (vL x), none, some (vI 0), some (vI (nI 0)), none]) ⟨Or.inl rfl, Or.inr rfl, Or.inr rfl, Or.inr rfl, Or.inr rfl, Or.inr rfl, Or.inr rfl, trivial⟩ ?_
  exact lp_X2_countCharacters l 8 0 x 0 (by omega)
