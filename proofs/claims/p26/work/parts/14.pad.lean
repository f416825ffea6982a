/-! PAD: its text as a value; contracts (laid by wip/p26/mk14.py) -/
abbrev PV : Type := Nat × (Nat → Int32)
def pN (σ : Sg) : Nat := (σ.1 (5, 0, 0) 1).toNatClampNeg
def pv (σ : Sg) : PV := (pN σ, fun i => if i < pN σ then σ.1 (6, 0, 0) i else 0)
def PadOK (σ : Sg) : Prop := pN σ ≤ 60 ∧ σ.1 (5, 0, 0) 1 = nI (pN σ)
def eonS (P : PV) (s : Nat) : Nat := if ¬ isInS (P.2 s) 48 57 = 0 then (if P.2 s = 48 then s + 1 else if isInS (P.2 (s + 1)) 48 57 = 0 then s + 1 else s + 2) else s
def numF (P : PV) : Nat → Nat → Int32 → Int32
  | 0, _, a => a
  | k + 1, i, a => numF P k (i + 1) (10 * a + P.2 i - 48)
def numS (P : PV) (s e : Nat) : Int32 := numF P (e - s) s 0
def shr8 (x : Int64) : Int64 := (x.toUInt64 >>> ((8 : Int32).toInt64.toUInt64 &&& Int64.toUInt64 63)).toInt64
def cntC : Nat → Int64 → Int32 → Int32
  | 0, _, m => m
  | k + 1, x, m => if lg_cmp x 0 = 0 then m else if ¬ isInS (x &&& 255).toInt32 33 126 = 0 then cntC k (shr8 x) (m + 1) else 0
theorem eon_le (P : PV) (s : Nat) : s ≤ eonS P s ∧ eonS P s ≤ s + 2 := by
  unfold eonS
  split
  · split
    · omega
    · split <;> omega
  · omega
theorem nI_2 (a : Nat) : nI a + 2 = nI (a + 2) := nI_add a 2
set_option maxHeartbeats 2000000 in
theorem c_X2_characterAt (l : Launch) {σ : Sg} {i : Nat} (hP : PadOK σ) (hi : i < 2 ^ 30) : Con l 0 yX2_characterAt cX2_characterAt 2 (some .int) [vR (5, 0, 0), vI (nI i)] σ (pureP ((pv σ).2 i) σ) := by
  refine con_of pn_X2_characterAt (Nat.le_of_ble_eq_true rfl) (fun hPK hok => ?_)
  show G l (Rm 0) RX2 cX2_characterAt 2 (some .int) _ 0 [some (vR (5, 0, 0)), some (vI (nI i))] [] σ
  refine g_blk (pc' := 1) (loc' := [some (vR (5, 0, 0)), some (vI (nI i))]) (st' := [vI (nI i)]) (σ' := σ) fl2_ok [(0, .iload_n 1)] (by decide +kernel) rfl rfl ?_
  refine g_if_lt (off := 29) (tgt := 30) (by decide +kernel) (by decide) (fun zc1 => ?_) (fun zc1 => ?_)
  · exact absurd zc1 (nI_pos (by omega))
  · refine g_blk (pc' := 9) (loc' := [some (vR (5, 0, 0)), some (vI (nI i))]) (st' := [vI (σ.1 (5, 0, 0) 1), vI (nI i)]) (σ' := σ) fl2_ok [(4, .iload_n 1), (5, .aload_n 0), (6, .getfield 30)] (by decide +kernel) rfl rfl ?_
    refine g_icmp_ge (off := 21) (tgt := 30) (by decide +kernel) (by decide) (fun zc9 => ?_) (fun zc9 => ?_)
    · have hm := hP.1
      rw [hP.2, nI_leI (by omega) (by omega)] at zc9
      refine g_blk (pc' := 31) (loc' := [some (vR (5, 0, 0)), some (vI (nI i))]) (st' := [vI (0 : Int32)]) (σ' := σ) fl2_ok [(30, .iconst 0)] (by decide +kernel) rfl rfl ?_
      exact g_iret (by decide +kernel) ⟨by show _ = some (vI (if i < pN σ then _ else _)); rw [if_neg (by omega)], rfl⟩
    · have hm := hP.1
      rw [hP.2, nI_leI (by omega) (by omega)] at zc9
      refine g_blk (pc' := 17) (loc' := [some (vR (5, 0, 0)), some (vI (nI i))]) (st' := [vR (6, 0, 0), vI (nI i)]) (σ' := σ) fl2_ok [(12, .iload_n 1), (13, .aload_n 0), (14, .getfield 9)] (by decide +kernel) rfl rfl ?_
      refine g_alen (x := (1, 60)) rfl (Nat.le_of_ble_eq_true rfl) (by decide +kernel) ?_
      refine g_icmp_ge (off := 12) (tgt := 30) (by decide +kernel) (by decide) (fun zc18 => ?_) (fun zc18 => ?_)
      · exact absurd zc18 (nI_ge (b := 60) (by omega) (by decide))
      · refine g_blk (pc' := 26) (loc' := [some (vR (5, 0, 0)), some (vI (nI i))]) (st' := [vI (nI i), vR (6, 0, 0)]) (σ' := σ) fl2_ok [(21, .aload_n 0), (22, .getfield 9), (25, .iload_n 1)] (by decide +kernel) rfl rfl ?_
        refine g_cald (n := 60) rfl (vp_in_nI (by omega) (by decide)) (by decide +kernel) ?_
        rw [nI_clamp (by omega)]
        refine g_blk (pc' := 31) (loc' := [some (vR (5, 0, 0)), some (vI (nI i))]) (st' := [vI (σ.1 (6, 0, 0) i)]) (σ' := σ) fl2_ok [(27, .goto 4)] (by decide +kernel) rfl rfl ?_
        exact g_iret (by decide +kernel) ⟨by show _ = some (vI (if i < pN σ then _ else _)); rw [if_pos (by omega)], rfl⟩
set_option maxHeartbeats 2000000 in
theorem c_X2_isDigitAt (l : Launch) {σ : Sg} {i : Nat} (hP : PadOK σ) (hi : i < 2 ^ 30) : Con l 1 yX2_isDigitAt cX2_isDigitAt 2 (some .boolean) [vR (5, 0, 0), vI (nI i)] σ (pureP (isInS ((pv σ).2 i) 48 57) σ) := by
  refine con_of pn_X2_isDigitAt (Nat.le_of_ble_eq_true rfl) (fun hPK hok => ?_)
  show G l (Rm 1) RX2 cX2_isDigitAt 2 (some .boolean) _ 0 [some (vR (5, 0, 0)), some (vI (nI i))] [] σ
  refine g_blk (pc' := 2) (loc' := [some (vR (5, 0, 0)), some (vI (nI i))]) (st' := [vI (nI i), vR (5, 0, 0)]) (σ' := σ) fl2_ok [(0, .aload_n 0), (1, .iload_n 1)] (by decide +kernel) rfl rfl ?_
  refine g_callVp (5, 0, 0) [vI (nI i)] [] vl_RX2_34 mi_X2_characterAt (c_X2_characterAt l (i := i) hP (by omega)) rfl rfl rfl rfl ⟨Nat.le_of_ble_eq_true rfl, Nat.le_of_ble_eq_true rfl⟩ rfl (Nat.le_of_ble_eq_true rfl) (by decide +kernel) ?_
  refine g_blk (pc' := 9) (loc' := [some (vR (5, 0, 0)), some (vI (nI i))]) (st' := [vI (57 : Int32), vI (48 : Int32), vI ((pv σ).2 i)]) (σ' := σ) fl2_ok [(5, .bipush 48), (7, .bipush 57)] (by decide +kernel) rfl rfl ?_
  refine g_callNp (idx := 26) [vI ((pv σ).2 i), vI (48 : Int32), vI (57 : Int32)] [] (by decide +kernel) nl_X4_isIn mi_X4_isIn (c_X4_isIn l ((pv σ).2 i) (48 : Int32) (57 : Int32)) rfl ⟨Nat.le_of_ble_eq_true rfl, Nat.le_of_ble_eq_true rfl⟩ rfl (Nat.le_of_ble_eq_true rfl) (by decide +kernel) ?_
  exact g_zret (by decide +kernel) (isInS_bit _ _ _) ⟨rfl, rfl⟩
set_option maxHeartbeats 2000000 in
theorem c_X2_endOfNumber (l : Launch) {σ : Sg} {i : Nat} (hP : PadOK σ) (hi : i < 2 ^ 29) : Con l 2 yX2_endOfNumber cX2_endOfNumber 3 (some .int) [vR (5, 0, 0), vI (nI i)] σ (pureP (nI (eonS (pv σ) i)) σ) := by
  refine con_of pn_X2_endOfNumber (Nat.le_of_ble_eq_true rfl) (fun hPK hok => ?_)
  show G l (Rm 2) RX2 cX2_endOfNumber 3 (some .int) _ 0 [some (vR (5, 0, 0)), some (vI (nI i)), none] [] σ
  refine g_blk (pc' := 2) (loc' := [some (vR (5, 0, 0)), some (vI (nI i)), none]) (st' := [vI (nI i), vR (5, 0, 0)]) (σ' := σ) fl2_ok [(0, .aload_n 0), (1, .iload_n 1)] (by decide +kernel) rfl rfl ?_
  refine g_callVp (5, 0, 0) [vI (nI i)] [] vl_RX2_59 mi_X2_isDigitAt (c_X2_isDigitAt l (i := i) hP (by omega)) rfl rfl rfl rfl ⟨Nat.le_of_ble_eq_true rfl, Nat.le_of_ble_eq_true rfl⟩ rfl (Nat.le_of_ble_eq_true rfl) (by decide +kernel) ?_
  refine g_if_ne (off := 5) (tgt := 10) (by decide +kernel) (by decide) (fun zc5 => ?_) (fun zc5 => ?_)
  · refine g_blk (pc' := 12) (loc' := [some (vR (5, 0, 0)), some (vI (nI i)), none]) (st' := [vI (nI i), vR (5, 0, 0)]) (σ' := σ) fl2_ok [(10, .aload_n 0), (11, .iload_n 1)] (by decide +kernel) rfl rfl ?_
    refine g_callVp (5, 0, 0) [vI (nI i)] [] vl_RX2_34 mi_X2_characterAt (c_X2_characterAt l (i := i) hP (by omega)) rfl rfl rfl rfl ⟨Nat.le_of_ble_eq_true rfl, Nat.le_of_ble_eq_true rfl⟩ rfl (Nat.le_of_ble_eq_true rfl) (by decide +kernel) ?_
    refine g_blk (pc' := 17) (loc' := [some (vR (5, 0, 0)), some (vI (nI i)), none]) (st' := [vI (48 : Int32), vI ((pv σ).2 i)]) (σ' := σ) fl2_ok [(15, .bipush 48)] (by decide +kernel) rfl rfl ?_
    refine g_icmp_eq (off := 7) (tgt := 24) (by decide +kernel) (by decide) (fun zc17 => ?_) (fun zc17 => ?_)
    · refine g_blk (pc' := 27) (loc' := [some (vR (5, 0, 0)), some (vI (nI i)), some (vI (0 : Int32))]) (st' := [vI (0 : Int32)]) (σ' := σ) fl2_ok [(24, .iconst 0), (25, .istore_n 2), (26, .iload_n 2)] (by decide +kernel) rfl rfl ?_
      refine g_if_eq (off := 19) (tgt := 46) (by decide +kernel) (by decide) (fun zc27 => ?_) (fun zc27 => ?_)
      · refine g_blk (pc' := 49) (loc' := [some (vR (5, 0, 0)), some (vI (nI i)), some (vI (0 : Int32))]) (st' := [vI ((nI i) + (1 : Int32))]) (σ' := σ) fl2_ok [(46, .iload_n 1), (47, .iconst 1), (48, .iadd)] (by decide +kernel) rfl rfl ?_
        exact g_iret (by decide +kernel) ⟨by rw [eonS, if_pos zc5, if_pos zc17, nI_1], rfl⟩
      · exact absurd zc27 (by decide)
    · refine g_blk (pc' := 27) (loc' := [some (vR (5, 0, 0)), some (vI (nI i)), some (vI (1 : Int32))]) (st' := [vI (1 : Int32)]) (σ' := σ) fl2_ok [(20, .iconst 1), (21, .goto 4), (25, .istore_n 2), (26, .iload_n 2)] (by decide +kernel) rfl rfl ?_
      refine g_if_eq (off := 19) (tgt := 46) (by decide +kernel) (by decide) (fun zc27 => ?_) (fun zc27 => ?_)
      · exact absurd zc27 (by decide)
      · refine g_blk (pc' := 34) (loc' := [some (vR (5, 0, 0)), some (vI (nI i)), some (vI (1 : Int32))]) (st' := [vI ((nI i) + (1 : Int32)), vR (5, 0, 0)]) (σ' := σ) fl2_ok [(30, .aload_n 0), (31, .iload_n 1), (32, .iconst 1), (33, .iadd)] (by decide +kernel) rfl rfl ?_
        rw [nI_1]
        refine g_callVp (5, 0, 0) [vI (nI (i + 1))] [] vl_RX2_59 mi_X2_isDigitAt (c_X2_isDigitAt l (i := (i + 1)) hP (by omega)) rfl rfl rfl rfl ⟨Nat.le_of_ble_eq_true rfl, Nat.le_of_ble_eq_true rfl⟩ rfl (Nat.le_of_ble_eq_true rfl) (by decide +kernel) ?_
        refine g_if_eq (off := 9) (tgt := 46) (by decide +kernel) (by decide) (fun zc37 => ?_) (fun zc37 => ?_)
        · refine g_blk (pc' := 49) (loc' := [some (vR (5, 0, 0)), some (vI (nI i)), some (vI (1 : Int32))]) (st' := [vI ((nI i) + (1 : Int32))]) (σ' := σ) fl2_ok [(46, .iload_n 1), (47, .iconst 1), (48, .iadd)] (by decide +kernel) rfl rfl ?_
          exact g_iret (by decide +kernel) ⟨by rw [eonS, if_pos zc5, if_neg zc17, if_pos zc37, nI_1], rfl⟩
        · refine g_blk (pc' := 49) (loc' := [some (vR (5, 0, 0)), some (vI (nI i)), some (vI (1 : Int32))]) (st' := [vI ((nI i) + (2 : Int32))]) (σ' := σ) fl2_ok [(40, .iload_n 1), (41, .iconst 2), (42, .iadd), (43, .goto 6)] (by decide +kernel) rfl rfl ?_
          exact g_iret (by decide +kernel) ⟨by rw [eonS, if_pos zc5, if_neg zc17, if_neg zc37, nI_2], rfl⟩
  · refine g_blk (pc' := 9) (loc' := [some (vR (5, 0, 0)), some (vI (nI i)), none]) (st' := [vI (nI i)]) (σ' := σ) fl2_ok [(8, .iload_n 1)] (by decide +kernel) rfl rfl ?_
    exact g_iret (by decide +kernel) ⟨by rw [eonS, if_neg (not_not_intro zc5)], rfl⟩
set_option maxHeartbeats 2000000 in
theorem lp_X2_numberIn (l : Launch) {σ : Sg} {e : Nat} (hP : PadOK σ) (he : e < 2 ^ 30) : ∀ (k i : Nat) (a : Int32), i + k = e → G l (Rm 1) RX2 cX2_numberIn 5 (some .int) (pureP (numF (pv σ) k i a) σ) 5 [some (vR (5, 0, 0)), none, some (vI (nI e)), some (vI a), some (vI (nI i))] [] σ := by
  intro k
  induction k with
  | zero =>
    intro i a hk
    refine g_blk (pc' := 8) (loc' := [some (vR (5, 0, 0)), none, some (vI (nI e)), some (vI a), some (vI (nI i))]) (st' := [vI (nI e), vI (nI i)]) (σ' := σ) fl2_ok [(5, .iload 4), (7, .iload_n 2)] (by decide +kernel) rfl rfl ?_
    refine g_icmp_ge (off := 24) (tgt := 32) (by decide +kernel) (by decide) (fun zc8 => ?_) (fun zc8 => ?_)
    · rw [nI_leI (by omega) (by omega)] at zc8
      refine g_blk (pc' := 33) (loc' := [some (vR (5, 0, 0)), none, some (vI (nI e)), some (vI a), some (vI (nI i))]) (st' := [vI a]) (σ' := σ) fl2_ok [(32, .iload_n 3)] (by decide +kernel) rfl rfl ?_
      exact g_iret (by decide +kernel) ⟨by rw [numF], rfl⟩
    · rw [nI_leI (by omega) (by omega)] at zc8
      exact absurd (by omega) zc8
  | succ k ih =>
    intro i a hk
    refine g_blk (pc' := 8) (loc' := [some (vR (5, 0, 0)), none, some (vI (nI e)), some (vI a), some (vI (nI i))]) (st' := [vI (nI e), vI (nI i)]) (σ' := σ) fl2_ok [(5, .iload 4), (7, .iload_n 2)] (by decide +kernel) rfl rfl ?_
    refine g_icmp_ge (off := 24) (tgt := 32) (by decide +kernel) (by decide) (fun zc8 => ?_) (fun zc8 => ?_)
    · rw [nI_leI (by omega) (by omega)] at zc8
      exact absurd zc8 (by omega)
    · rw [nI_leI (by omega) (by omega)] at zc8
      refine g_blk (pc' := 18) (loc' := [some (vR (5, 0, 0)), none, some (vI (nI e)), some (vI a), some (vI (nI i))]) (st' := [vI (nI i), vR (5, 0, 0), vI ((10 : Int32) * a)]) (σ' := σ) fl2_ok [(11, .bipush 10), (13, .iload_n 3), (14, .imul), (15, .aload_n 0), (16, .iload 4)] (by decide +kernel) rfl rfl ?_
      refine g_callVp (5, 0, 0) [vI (nI i)] [vI ((10 : Int32) * a)] vl_RX2_34 mi_X2_characterAt (c_X2_characterAt l (i := i) hP (by omega)) rfl rfl rfl rfl ⟨Nat.le_of_ble_eq_true rfl, Nat.le_of_ble_eq_true rfl⟩ rfl (Nat.le_of_ble_eq_true rfl) (by decide +kernel) ?_
      refine g_blk (pc' := 5) (loc' := [some (vR (5, 0, 0)), none, some (vI (nI e)), some (vI ((((10 : Int32) * a) + ((pv σ).2 i)) - (48 : Int32))), some (vI ((nI i) + (1 : Int32)))]) (st' := []) (σ' := σ) fl2_ok [(21, .iadd), (22, .bipush 48), (24, .isub), (25, .istore_n 3), (26, .iinc 4 1), (29, .goto (-24))] (by decide +kernel) rfl rfl ?_
      rw [numF, nI_1]
      exact ih (i + 1) _ (by omega)
set_option maxHeartbeats 2000000 in
theorem c_X2_numberIn (l : Launch) {σ : Sg} {i j : Nat} (hP : PadOK σ) (hij : i ≤ j) (hj : j < 2 ^ 30) : Con l 1 yX2_numberIn cX2_numberIn 5 (some .int) [vR (5, 0, 0), vI (nI i), vI (nI j)] σ (pureP (numS (pv σ) i j) σ) := by
  refine con_of pn_X2_numberIn (Nat.le_of_ble_eq_true rfl) (fun hPK hok => ?_)
  show G l (Rm 1) RX2 cX2_numberIn 5 (some .int) _ 0 [some (vR (5, 0, 0)), some (vI (nI i)), some (vI (nI j)), none, none] [] σ
  refine g_blk (pc' := 5) (loc' := [some (vR (5, 0, 0)), some (vI (nI i)), some (vI (nI j)), some (vI (0 : Int32)), some (vI (nI i))]) (st' := []) (σ' := σ) fl2_ok [(0, .iconst 0), (1, .istore_n 3), (2, .iload_n 1), (3, .istore 4)] (by decide +kernel) rfl rfl ?_
  refine g_sub (loc' := [some (vR (5, 0, 0)), none, some (vI (nI j)), some (vI 0), some (vI (nI i))]) ⟨Or.inr rfl, Or.inl rfl, Or.inr rfl, Or.inr rfl, Or.inr rfl, trivial⟩ ?_
  exact lp_X2_numberIn l hP hj (j - i) i 0 (by omega)
set_option maxHeartbeats 2000000 in
theorem lp_X2_countCharacters (l : Launch) {σ : Sg} : ∀ (k i : Nat) (x : Int64) (m : Int32), i + k = 8 → G l (Rm 1) RX2 cX2_countCharacters 7 (some .int) (pureP (cntC k x m) σ) 8 [none, none, some (vL x), none, some (vI m), some (vI (nI i)), none] [] σ := by
  intro k
  induction k with
  | zero =>
    intro i x m hk
    refine g_blk (pc' := 12) (loc' := [none, none, some (vL x), none, some (vI m), some (vI (nI i)), none]) (st' := [vI (8 : Int32), vI (nI i)]) (σ' := σ) fl2_ok [(8, .iload 5), (10, .bipush 8)] (by decide +kernel) rfl rfl ?_
    refine g_icmp_ge (off := 45) (tgt := 57) (by decide +kernel) (by decide) (fun zc12 => ?_) (fun zc12 => ?_)
    · have h8b : (8 : Int32) = nI 8 := rfl
      rw [h8b, nI_leI (by decide) (by omega)] at zc12
      refine g_blk (pc' := 59) (loc' := [none, none, some (vL x), none, some (vI m), some (vI (nI i)), none]) (st' := [vI m]) (σ' := σ) fl2_ok [(57, .iload 4)] (by decide +kernel) rfl rfl ?_
      exact g_iret (by decide +kernel) ⟨by rw [cntC], rfl⟩
    · have h8b : (8 : Int32) = nI 8 := rfl
      rw [h8b, nI_leI (by decide) (by omega)] at zc12
      exact absurd (by omega) zc12
  | succ k ih =>
    intro i x m hk
    refine g_blk (pc' := 12) (loc' := [none, none, some (vL x), none, some (vI m), some (vI (nI i)), none]) (st' := [vI (8 : Int32), vI (nI i)]) (σ' := σ) fl2_ok [(8, .iload 5), (10, .bipush 8)] (by decide +kernel) rfl rfl ?_
    refine g_icmp_ge (off := 45) (tgt := 57) (by decide +kernel) (by decide) (fun zc12 => ?_) (fun zc12 => ?_)
    · have h8b : (8 : Int32) = nI 8 := rfl
      rw [h8b, nI_leI (by decide) (by omega)] at zc12
      exact absurd zc12 (by omega)
    · have h8b : (8 : Int32) = nI 8 := rfl
      rw [h8b, nI_leI (by decide) (by omega)] at zc12
      refine g_blk (pc' := 18) (loc' := [none, none, some (vL x), none, some (vI m), some (vI (nI i)), none]) (st' := [vI (lg_cmp x (0 : Int64))]) (σ' := σ) fl2_ok [(15, .lload_n 2), (16, .lconst 0), (17, .lcmp)] (by decide +kernel) rfl rfl ?_
      refine g_if_eq (off := 39) (tgt := 57) (by decide +kernel) (by decide) (fun zc18 => ?_) (fun zc18 => ?_)
      · refine g_blk (pc' := 59) (loc' := [none, none, some (vL x), none, some (vI m), some (vI (nI i)), none]) (st' := [vI m]) (σ' := σ) fl2_ok [(57, .iload 4)] (by decide +kernel) rfl rfl ?_
        exact g_iret (by decide +kernel) ⟨by rw [cntC, if_pos zc18], rfl⟩
      · refine g_blk (pc' := 22) (loc' := [none, none, some (vL x), none, some (vI m), some (vI (nI i)), none]) (st' := [vL x]) (σ' := σ) fl2_ok [(21, .lload_n 2)] (by decide +kernel) rfl rfl ?_
        refine g_ldc2 (v := 255) kl_RX2_24 (by decide +kernel) ?_
        refine g_blk (pc' := 35) (loc' := [none, none, some (vL x), none, some (vI m), some (vI (nI i)), some (vI ((x &&& (255 : Int64)).toInt32))]) (st' := [vI (126 : Int32), vI (33 : Int32), vI ((x &&& (255 : Int64)).toInt32)]) (σ' := σ) fl2_ok [(25, .land), (26, .l2i), (27, .istore 6), (29, .iload 6), (31, .bipush 33), (33, .bipush 126)] (by decide +kernel) rfl rfl ?_
        refine g_callNp (idx := 26) [vI ((x &&& (255 : Int64)).toInt32), vI (33 : Int32), vI (126 : Int32)] [] (by decide +kernel) nl_X4_isIn mi_X4_isIn (c_X4_isIn l ((x &&& (255 : Int64)).toInt32) (33 : Int32) (126 : Int32)) rfl ⟨Nat.le_of_ble_eq_true rfl, Nat.le_of_ble_eq_true rfl⟩ rfl (Nat.le_of_ble_eq_true rfl) (by decide +kernel) ?_
        refine g_if_ne (off := 5) (tgt := 43) (by decide +kernel) (by decide) (fun zc38 => ?_) (fun zc38 => ?_)
        · refine g_blk (pc' := 8) (loc' := [none, none, some (vL ((x.toUInt64 >>> ((8 : Int32).toInt64.toUInt64 &&& Int64.toUInt64 63)).toInt64)), none, some (vI (m + (1 : Int32))), some (vI ((nI i) + (1 : Int32))), some (vI ((x &&& (255 : Int64)).toInt32))]) (st' := []) (σ' := σ) fl2_ok [(43, .iinc 4 1), (46, .lload_n 2), (47, .bipush 8), (49, .lushr), (50, .lstore_n 2), (51, .iinc 5 1), (54, .goto (-46))] (by decide +kernel) rfl rfl ?_
          rw [cntC, if_neg zc18, if_pos zc38, nI_1]
          exact g_sub (loc' := [none, none, some (vL (shr8 x)), none, some (vI (m + 1)), some (vI (nI (i + 1))), none]) ⟨Or.inl rfl, Or.inl rfl, Or.inr rfl, Or.inr rfl, Or.inr rfl, Or.inr rfl, Or.inl rfl, trivial⟩ (ih (i + 1) (shr8 x) (m + 1) (by omega))
        · refine g_blk (pc' := 42) (loc' := [none, none, some (vL x), none, some (vI m), some (vI (nI i)), some (vI ((x &&& (255 : Int64)).toInt32))]) (st' := [vI (0 : Int32)]) (σ' := σ) fl2_ok [(41, .iconst 0)] (by decide +kernel) rfl rfl ?_
          exact g_iret (by decide +kernel) ⟨by rw [cntC, if_neg zc18, if_neg (not_not_intro zc38)], rfl⟩
set_option maxHeartbeats 2000000 in
theorem c_X2_countCharacters (l : Launch) {σ : Sg} {x : Int64}  : Con l 1 yX2_countCharacters cX2_countCharacters 7 (some .int) [vL x] σ (pureP (cntC 8 x 0) σ) := by
  refine con_of pn_X2_countCharacters (Nat.le_of_ble_eq_true rfl) (fun hPK hok => ?_)
  show G l (Rm 1) RX2 cX2_countCharacters 7 (some .int) _ 0 [some (vL x), none, none, none, none, none, none] [] σ
  refine g_blk (pc' := 8) (loc' := [some (vL x), none, some (vL x), none, some (vI (0 : Int32)), some (vI (0 : Int32)), none]) (st' := []) (σ' := σ) fl2_ok [(0, .lload_n 0), (1, .lstore_n 2), (2, .iconst 0), (3, .istore 4), (5, .iconst 0), (6, .istore 5)] (by decide +kernel) rfl rfl ?_
  refine g_sub (loc' := [none, none, some (vL x), none, some (vI 0), some (vI (nI 0)), none]) ⟨Or.inl rfl, Or.inr rfl, Or.inr rfl, Or.inr rfl, Or.inr rfl, Or.inr rfl, Or.inr rfl, trivial⟩ ?_
  exact lp_X2_countCharacters l 8 0 x 0 (by omega)
def FrP (σ σ' : Sg) : Prop := (∀ q, q ≠ (5, 0, 0) → q ≠ (6, 0, 0) → σ'.1 q = σ.1 q) ∧ σ'.2 = σ.2
theorem FrP.tr {σ σ1 σ2 : Sg} (a : FrP σ σ1) (b : FrP σ1 σ2) : FrP σ σ2 := ⟨fun q h1 h2 => (b.1 q h1 h2).trans (a.1 q h1 h2), b.2.trans a.2⟩
def chC (x : Int64) (k : Nat) : Int32 := vp_nar .char ((((x.toUInt64 >>> (((8 : Int32) * nI k).toInt64.toUInt64 &&& Int64.toUInt64 63)).toInt64 &&& 255).toInt32.toUInt32 % 65536).toInt32)
def appF (x : Int64) : Nat → PV → PV
  | 0, P => P
  | k + 1, P => appF x k (P.1 + 1, fun i => if i = P.1 then chC x k else P.2 i)
theorem pad_N {σ σ' : Sg} {n : Nat} (hn : n ≤ 60) (e : (upd2 σ.1 (5, 0, 0) 1 (nI n), σ.2) = σ') : PadOK σ' ∧ pN σ' = n ∧ (pv σ').2 = (fun i => if i < n then σ.1 (6, 0, 0) i else 0) ∧ FrP σ σ' := by
  subst e
  have e0 : (upd2 σ.1 (5, 0, 0) 1 (nI n), σ.2).1 (5, 0, 0) 1 = nI n := by
    show upd2 σ.1 (5, 0, 0) 1 (nI n) (5, 0, 0) 1 = nI n
    rw [upd2_same]
    simp [upd]
  have e1 : pN (upd2 σ.1 (5, 0, 0) 1 (nI n), σ.2) = n := by rw [pN, e0, nI_clamp (by omega)]
  refine ⟨⟨by rw [e1]; exact hn, by rw [e1]; exact e0⟩, e1, ?_, ⟨fun q h1 h2 => upd2_ne σ.1 (q := (5, 0, 0)) (p := q) 1 (nI n) h1, rfl⟩⟩
  funext i
  show (if i < pN (upd2 σ.1 (5, 0, 0) 1 (nI n), σ.2) then upd2 σ.1 (5, 0, 0) 1 (nI n) (6, 0, 0) i else 0) = _
  rw [e1, upd2_ne σ.1 (q := (5, 0, 0)) (p := (6, 0, 0)) 1 (nI n) (by simp)]
theorem pad_at6 {σ σa : Sg} {k : Nat} {v : Int32} (e : (upd2 σ.1 (6, 0, 0) k v, σ.2) = σa) : σa.1 (5, 0, 0) = σ.1 (5, 0, 0) := by
  rw [← e]
  exact upd2_ne σ.1 (q := (6, 0, 0)) (p := (5, 0, 0)) k v (by simp)
theorem pad_app {σ σ1 σ2 : Sg} {v : Int32} (hP : PadOK σ) (hn : pN σ < 60) (e1 : (upd2 σ.1 (6, 0, 0) (pN σ) v, σ.2) = σ1) (e2 : (upd2 σ1.1 (5, 0, 0) 1 (nI (pN σ + 1)), σ1.2) = σ2) : PadOK σ2 ∧ pv σ2 = ((pv σ).1 + 1, fun i => if i = (pv σ).1 then v else (pv σ).2 i) ∧ FrP σ σ2 := by
  obtain ⟨g1, g2, g3, g4⟩ := pad_N (show pN σ + 1 ≤ 60 by omega) e2
  have h6 : σ1.1 (6, 0, 0) = upd (σ.1 (6, 0, 0)) (pN σ) v := by rw [← e1]; exact upd2_same σ.1 (6, 0, 0) (pN σ) v
  refine ⟨g1, Prod.ext g2 ?_, ⟨fun q h1 h2 => (g4.1 q h1 h2).trans (by rw [← e1]; exact upd2_ne σ.1 (q := (6, 0, 0)) (p := q) (pN σ) v h2), g4.2.trans (by rw [← e1])⟩⟩
  rw [g3, h6]
  funext i
  show (if i < pN σ + 1 then upd (σ.1 (6, 0, 0)) (pN σ) v i else 0) = if i = pN σ then v else if i < pN σ then σ.1 (6, 0, 0) i else 0
  unfold upd
  by_cases h : i = pN σ
  · rw [if_pos (by omega), if_pos h, if_pos h]
  · rw [if_neg h, if_neg h]
    by_cases h2 : i < pN σ
    · rw [if_pos (by omega), if_pos h2]
    · rw [if_neg (by omega), if_neg h2]
set_option maxHeartbeats 2000000 in
theorem lp_X2_append (l : Launch) {σ0 : Sg} {x : Int64} {Pf : PV} : ∀ (k : Nat) (σ : Sg), PadOK σ → pN σ + k ≤ 60 → appF x k (pv σ) = Pf → FrP σ0 σ → G l (Rm 0) RX2 cX2_append 5 none (fun o σ' => o = none ∧ PadOK σ' ∧ pv σ' = Pf ∧ FrP σ0 σ') 5 [some (vR (5, 0, 0)), some (vL x), none, none, some (vI (nI k - 1))] [] σ := by
  intro k
  induction k with
  | zero =>
    intro σ hP hk hd hF
    refine g_blk (pc' := 7) (loc' := [some (vR (5, 0, 0)), some (vL x), none, none, some (vI (nI 0 - 1))]) (st' := [vI (nI 0 - 1)]) (σ' := σ) fl2_ok [(5, .iload 4)] (by decide +kernel) rfl rfl ?_
    refine g_if_lt (off := 60) (tgt := 67) (by decide +kernel) (by decide) (fun zc7 => ?_) (fun zc7 => ?_)
    · exact g_vret (by decide +kernel) ⟨rfl, hP, hd, hF⟩
    · exact absurd (by decide) zc7
  | succ k ih =>
    intro σ hP hk hd hF
    rw [nI_pred]
    refine g_blk (pc' := 7) (loc' := [some (vR (5, 0, 0)), some (vL x), none, none, some (vI (nI k))]) (st' := [vI (nI k)]) (σ' := σ) fl2_ok [(5, .iload 4)] (by decide +kernel) rfl rfl ?_
    refine g_if_lt (off := 60) (tgt := 67) (by decide +kernel) (by decide) (fun zc7 => ?_) (fun zc7 => ?_)
    · exact absurd zc7 (nI_pos (by omega))
    · refine g_blk (pc' := 14) (loc' := [some (vR (5, 0, 0)), some (vL x), none, none, some (vI (nI k))]) (st' := [vI (σ.1 (5, 0, 0) 1)]) (σ' := σ) fl2_ok [(10, .aload_n 0), (11, .getfield 30)] (by decide +kernel) rfl rfl ?_
      refine g_if_lt (off := 47) (tgt := 61) (by decide +kernel) (by decide) (fun zc14 => ?_) (fun zc14 => ?_)
      · rw [hP.2] at zc14
        exact absurd zc14 (nI_pos (by omega))
      · refine g_blk (pc' := 25) (loc' := [some (vR (5, 0, 0)), some (vL x), none, none, some (vI (nI k))]) (st' := [vR (6, 0, 0), vI (σ.1 (5, 0, 0) 1)]) (σ' := σ) fl2_ok [(17, .aload_n 0), (18, .getfield 30), (21, .aload_n 0), (22, .getfield 9)] (by decide +kernel) rfl rfl ?_
        refine g_alen (x := (1, 60)) rfl (Nat.le_of_ble_eq_true rfl) (by decide +kernel) ?_
        refine g_icmp_ge (off := 35) (tgt := 61) (by decide +kernel) (by decide) (fun zc26 => ?_) (fun zc26 => ?_)
        · rw [hP.2] at zc26
          exact absurd zc26 (nI_ge (b := 60) (by omega) (by decide))
        · refine g_blk (pc' := 44) (loc' := [some (vR (5, 0, 0)), some (vL x), none, none, some (vI (nI k))]) (st' := [vL ((x.toUInt64 >>> (((8 : Int32) * (nI k)).toInt64.toUInt64 &&& Int64.toUInt64 63)).toInt64), vI (σ.1 (5, 0, 0) 1), vR (6, 0, 0)]) (σ' := σ) fl2_ok [(29, .aload_n 0), (30, .getfield 9), (33, .aload_n 0), (34, .getfield 30), (37, .lload_n 1), (38, .bipush 8), (40, .iload 4), (42, .imul), (43, .lushr)] (by decide +kernel) rfl rfl ?_
          refine g_ldc2 (v := 255) kl_RX2_24 (by decide +kernel) ?_
          refine g_blk (pc' := 50) (loc' := [some (vR (5, 0, 0)), some (vL x), none, none, some (vI (nI k))]) (st' := [vI ((((((x.toUInt64 >>> (((8 : Int32) * (nI k)).toInt64.toUInt64 &&& Int64.toUInt64 63)).toInt64) &&& (255 : Int64)).toInt32).toUInt32 % 65536).toInt32), vI (σ.1 (5, 0, 0) 1), vR (6, 0, 0)]) (σ' := σ) fl2_ok [(47, .land), (48, .l2i), (49, .i2c)] (by decide +kernel) rfl rfl ?_
          refine g_cast (n := 60) rfl (by rw [hP.2]; exact vp_in_nI (by omega) (by decide)) (by decide +kernel) ?_
          rw [hP.2, nI_clamp (by omega)]
          show G l (Rm 0) RX2 cX2_append 5 none _ _ _ _ (upd2 σ.1 (6, 0, 0) (pN σ) (chC x k), σ.2)
          generalize hσa : ((upd2 σ.1 (6, 0, 0) (pN σ) (chC x k), σ.2) : Sg) = σa
          have hla : σa.1 (5, 0, 0) 1 = nI (pN σ) := by rw [pad_at6 hσa]; exact hP.2
          refine g_blk (pc' := 61) (loc' := [some (vR (5, 0, 0)), some (vL x), none, none, some (vI (nI k))]) (st' := []) (σ' := (upd2 σa.1 (5, 0, 0) 1 ((σa.1 (5, 0, 0) 1) + (1 : Int32)), σa.2)) fl2_ok [(51, .aload_n 0), (52, .dup), (53, .getfield 30), (56, .iconst 1), (57, .iadd), (58, .putfield 30)] (by decide +kernel) rfl rfl ?_
          generalize hσ1 : ((upd2 σa.1 (5, 0, 0) 1 ((σa.1 (5, 0, 0) 1) + (1 : Int32)), σa.2) : Sg) = σ1
          rw [hla, nI_1] at hσ1
          obtain ⟨g1, g2, g3⟩ := pad_app hP (by omega) hσa hσ1
          refine g_blk (pc' := 5) (loc' := [some (vR (5, 0, 0)), some (vL x), none, none, some (vI ((nI k) + (-1 : Int32)))]) (st' := []) (σ' := σ1) fl2_ok [(61, .iinc 4 (-1)), (64, .goto (-59))] (by decide +kernel) rfl rfl ?_
          have hpn : pN σ1 = pN σ + 1 := congrArg Prod.fst g2
          rw [im1]
          exact ih σ1 g1 (by omega) (by rw [g2]; exact hd) (hF.tr g3)
set_option maxHeartbeats 2000000 in
theorem c_X2_append (l : Launch) {σ : Sg} {x : Int64} {c : Nat} (hP : PadOK σ) (hc : pN σ + c ≤ 60) : Con l 0 yX2_append cX2_append 5 none [vR (5, 0, 0), vL x, vI (nI c)] σ (fun o σ' => o = none ∧ PadOK σ' ∧ pv σ' = appF x c (pv σ) ∧ FrP σ σ') := by
  refine con_of pn_X2_append (Nat.le_of_ble_eq_true rfl) (fun hPK hok => ?_)
  show G l (Rm 0) RX2 cX2_append 5 none _ 0 [some (vR (5, 0, 0)), some (vL x), none, some (vI (nI c)), none] [] σ
  refine g_blk (pc' := 5) (loc' := [some (vR (5, 0, 0)), some (vL x), none, some (vI (nI c)), some (vI ((nI c) - (1 : Int32)))]) (st' := []) (σ' := σ) fl2_ok [(0, .iload_n 3), (1, .iconst 1), (2, .isub), (3, .istore 4)] (by decide +kernel) rfl rfl ?_
  refine g_sub (loc' := [some (vR (5, 0, 0)), some (vL x), none, none, some (vI (nI c - 1))]) ⟨Or.inr rfl, Or.inr rfl, Or.inr rfl, Or.inl rfl, Or.inr rfl, trivial⟩ ?_
  exact lp_X2_append l c σ hP hc rfl ⟨fun _ _ _ => rfl, rfl⟩
def addP (T : TV) (f g : Int32) : TV := twr 2 (twr 2 (tapp T) (nI T.1) 0 f) (nI T.1) 1 g
def rdF (P : PV) : Nat → Nat → TV → Int32 × TV
  | 0, s, T => (nI s, T)
  | k + 1, s, T =>
    if ¬ eonS P s = s then
      (if ¬ P.2 (eonS P s) = 45 then
        (if ¬ eonS P s = P.1 then (if P.2 (eonS P s) = 44 then rdF P k (eonS P s + 1) (addP T (numS P s (eonS P s)) (numS P s (eonS P s))) else (nI (eonS P s), addP T (numS P s (eonS P s)) (numS P s (eonS P s)))) else (-6, addP T (numS P s (eonS P s)) (numS P s (eonS P s))))
      else if eonS P (eonS P s + 1) = eonS P s + 1 then (nI (eonS P s + 1), T)
      else if numS P s (eonS P s) ≤ numS P (eonS P s + 1) (eonS P (eonS P s + 1)) then
        (if ¬ eonS P (eonS P s + 1) = P.1 then (if P.2 (eonS P (eonS P s + 1)) = 44 then rdF P k (eonS P (eonS P s + 1) + 1) (addP T (numS P s (eonS P s)) (numS P (eonS P s + 1) (eonS P (eonS P s + 1)))) else (nI (eonS P (eonS P s + 1)), addP T (numS P s (eonS P s)) (numS P (eonS P s + 1) (eonS P (eonS P s + 1))))) else (-6, addP T (numS P s (eonS P s)) (numS P (eonS P s + 1) (eonS P (eonS P s + 1)))))
      else (nI (eonS P s + 1), T))
    else (nI s, T)
theorem eon_in {σ : Sg} {s : Nat} (h : ¬ eonS (pv σ) s = s) : s < pN σ := by
  rcases Nat.lt_or_ge s (pN σ) with q | q
  · exact q
  · exfalso
    apply h
    have e : (pv σ).2 s = 0 := if_neg (by omega)
    rw [eonS, e]
    rfl
theorem pv_in {σ : Sg} {s : Nat} (h : (pv σ).2 s = 44) : s < pN σ := by
  rcases Nat.lt_or_ge s (pN σ) with q | q
  · exact q
  · exfalso
    have e : (pv σ).2 s = 0 := if_neg (by omega)
    rw [e] at h
    exact absurd h (by decide)
theorem tw_pad {σ σ' : Sg} {T : TV} (h : TW 5 0 T σ σ') : pv σ' = pv σ ∧ (PadOK σ → PadOK σ') := by
  have e5 : σ'.1 (5, 0, 0) = σ.1 (5, 0, 0) := h.2.2.1 (5, 0, 0) (by simp) (by simp)
  have e6 : σ'.1 (6, 0, 0) = σ.1 (6, 0, 0) := h.2.2.1 (6, 0, 0) (by simp) (by simp)
  have en : pN σ' = pN σ := by rw [pN, pN, e5]
  refine ⟨by rw [pv, pv, en, e6], fun hP => ?_⟩
  rw [PadOK, en, e5]
  exact hP
set_option maxHeartbeats 2000000 in
theorem c_X2_addPart (l : Launch) {σ : Sg}  (hT : TOK σ 5 0) (hn : tN σ 5 0 < 30) (f g : Int32) : Con l 2 yX2_addPart cX2_addPart 4 none [vR (5, 0, 0), vI f, vI g] σ (fun o σ' => o = none ∧ TW 5 0 (addP (tabs σ 5 0) f g) σ σ') := by
  refine con_of pn_X2_addPart (Nat.le_of_ble_eq_true rfl) (fun hPK hok => ?_)
  show G l (Rm 2) RX2 cX2_addPart 4 none _ 0 [some (vR (5, 0, 0)), some (vI f), some (vI g), none] [] σ
  refine g_blk (pc' := 4) (loc' := [some (vR (5, 0, 0)), some (vI f), some (vI g), none]) (st' := [vR (0, 5, 0)]) (σ' := σ) fl2_ok [(0, .aload_n 0), (1, .getfield 20)] (by decide +kernel) rfl rfl ?_
  refine g_callV (0, 5, 0) [] [] vl_RX2_51 mi_X3_append (c_X3_append l hT hn) rfl rfl rfl rfl ⟨Nat.le_of_ble_eq_true rfl, Nat.le_of_ble_eq_true rfl⟩ rfl (Nat.le_of_ble_eq_true rfl) (by decide +kernel) (fun o σ1 hPσ1 => ?_)
  obtain ⟨rfl, hWσ1⟩ := hPσ1
  refine g_blk (pc' := 15) (loc' := [some (vR (5, 0, 0)), some (vI f), some (vI g), some (vI (nI (tN σ 5 0)))]) (st' := [vI f, vI (0 : Int32), vI (nI (tN σ 5 0)), vR (0, 5, 0)]) (σ' := σ1) fl2_ok [(7, .istore_n 3), (8, .aload_n 0), (9, .getfield 20), (12, .iload_n 3), (13, .iconst 0), (14, .iload_n 1)] (by decide +kernel) rfl rfl ?_
  refine g_callV (0, 5, 0) [vI (nI (tN σ 5 0)), vI (0 : Int32), vI f] [] vl_RX2_55 mi_X3_write (c_X3_write l (nI (tN σ 5 0)) (0 : Int32) f hWσ1.2.1) rfl rfl rfl rfl ⟨Nat.le_of_ble_eq_true rfl, Nat.le_of_ble_eq_true rfl⟩ rfl (Nat.le_of_ble_eq_true rfl) (by decide +kernel) (fun o σ2 hPσ2 => ?_)
  obtain ⟨rfl, hWσ2⟩ := hPσ2
  refine g_blk (pc' := 25) (loc' := [some (vR (5, 0, 0)), some (vI f), some (vI g), some (vI (nI (tN σ 5 0)))]) (st' := [vI g, vI (1 : Int32), vI (nI (tN σ 5 0)), vR (0, 5, 0)]) (σ' := σ2) fl2_ok [(18, .aload_n 0), (19, .getfield 20), (22, .iload_n 3), (23, .iconst 1), (24, .iload_n 2)] (by decide +kernel) rfl rfl ?_
  refine g_callV (0, 5, 0) [vI (nI (tN σ 5 0)), vI (1 : Int32), vI g] [] vl_RX2_55 mi_X3_write (c_X3_write l (nI (tN σ 5 0)) (1 : Int32) g hWσ2.2.1) rfl rfl rfl rfl ⟨Nat.le_of_ble_eq_true rfl, Nat.le_of_ble_eq_true rfl⟩ rfl (Nat.le_of_ble_eq_true rfl) (by decide +kernel) (fun o σ3 hPσ3 => ?_)
  obtain ⟨rfl, hWσ3⟩ := hPσ3
  exact g_vret (by decide +kernel) ⟨rfl, ⟨by rw [hWσ3.1, hWσ2.1, hWσ1.1] <;> rfl, hWσ3.2.1, (hWσ1.2.2.tr hWσ2.2.2).tr hWσ3.2.2⟩⟩
set_option maxHeartbeats 4000000 in
theorem lp_X2_read (l : Launch) {σ0 : Sg} {Rf : Int32 × TV} : ∀ (k s i : Nat) (σ : Sg) {T : TV}, i + k = 61 → PadOK σ → pv σ = pv σ0 → s ≤ 60 → 2 * i ≤ s → TW 5 0 T σ0 σ → tN σ 5 0 = i → rdF (pv σ) k s T = Rf → G l (Rm 3) RX2 cX2_read 7 (some .int) (fun o σ' => o = some (vI Rf.1) ∧ TW 5 0 Rf.2 σ0 σ') 11 [some (vR (5, 0, 0)), some (vI (nI s)), some (vI (nI i)), none, none, none, none] [] σ := by
  intro k
  induction k with
  | zero =>
    intro s i σ T hk hP hpv hs h2 hTW hTi hd
    refine g_blk (pc' := 14) (loc' := [some (vR (5, 0, 0)), some (vI (nI s)), some (vI (nI i)), none, none, none, none]) (st' := [vI (60 : Int32), vI (nI i)]) (σ' := σ) fl2_ok [(11, .iload_n 2), (12, .bipush 60)] (by decide +kernel) rfl rfl ?_
    refine g_icmp_gt (off := 116) (tgt := 130) (by decide +kernel) (by decide) (fun zc14 => ?_) (fun zc14 => ?_)
    · rw [show (60 : Int32) = nI 60 from rfl, nI_ltI (by decide) (by omega)] at zc14
      refine g_blk (pc' := 131) (loc' := [some (vR (5, 0, 0)), some (vI (nI s)), some (vI (nI i)), none, none, none, none]) (st' := [vI (nI s)]) (σ' := σ) fl2_ok [(130, .iload_n 1)] (by decide +kernel) rfl rfl ?_
      rw [rdF] at hd
      exact g_iret (by decide +kernel) ⟨by rw [← hd], by rw [← hd]; exact hTW⟩
    · rw [show (60 : Int32) = nI 60 from rfl, nI_ltI (by decide) (by omega)] at zc14
      exact absurd (by omega) zc14
  | succ k ih =>
    intro s i σ T hk hP hpv hs h2 hTW hTi hd
    refine g_blk (pc' := 14) (loc' := [some (vR (5, 0, 0)), some (vI (nI s)), some (vI (nI i)), none, none, none, none]) (st' := [vI (60 : Int32), vI (nI i)]) (σ' := σ) fl2_ok [(11, .iload_n 2), (12, .bipush 60)] (by decide +kernel) rfl rfl ?_
    refine g_icmp_gt (off := 116) (tgt := 130) (by decide +kernel) (by decide) (fun zc14 => ?_) (fun zc14 => ?_)
    · rw [show (60 : Int32) = nI 60 from rfl, nI_ltI (by decide) (by omega)] at zc14
      exact absurd zc14 (by omega)
    · rw [show (60 : Int32) = nI 60 from rfl, nI_ltI (by decide) (by omega)] at zc14
      have hb1 := eon_le (pv σ) s
      have hb2 := eon_le (pv σ) (eonS (pv σ) s + 1)
      have hp60 := hP.1
      refine g_blk (pc' := 19) (loc' := [some (vR (5, 0, 0)), some (vI (nI s)), some (vI (nI i)), none, none, none, none]) (st' := [vI (nI s), vR (5, 0, 0)]) (σ' := σ) fl2_ok [(17, .aload_n 0), (18, .iload_n 1)] (by decide +kernel) rfl rfl ?_
      refine g_callVp (5, 0, 0) [vI (nI s)] [] vl_RX2_41 mi_X2_endOfNumber (c_X2_endOfNumber l (i := s) hP (by omega)) rfl rfl rfl rfl ⟨Nat.le_of_ble_eq_true rfl, Nat.le_of_ble_eq_true rfl⟩ rfl (Nat.le_of_ble_eq_true rfl) (by decide +kernel) ?_
      refine g_blk (pc' := 25) (loc' := [some (vR (5, 0, 0)), some (vI (nI s)), some (vI (nI i)), some (vI (nI (eonS (pv σ) s))), none, none, none]) (st' := [vI (nI s), vI (nI (eonS (pv σ) s))]) (σ' := σ) fl2_ok [(22, .istore_n 3), (23, .iload_n 3), (24, .iload_n 1)] (by decide +kernel) rfl rfl ?_
      refine g_icmp_ne (off := 5) (tgt := 30) (by decide +kernel) (by decide) (fun zc25 => ?_) (fun zc25 => ?_)
      · rw [nI_eq (by omega) (by omega)] at zc25
        refine g_blk (pc' := 33) (loc' := [some (vR (5, 0, 0)), some (vI (nI s)), some (vI (nI i)), some (vI (nI (eonS (pv σ) s))), none, none, none]) (st' := [vI (nI (eonS (pv σ) s)), vI (nI s), vR (5, 0, 0)]) (σ' := σ) fl2_ok [(30, .aload_n 0), (31, .iload_n 1), (32, .iload_n 3)] (by decide +kernel) rfl rfl ?_
        refine g_callVp (5, 0, 0) [vI (nI s), vI (nI (eonS (pv σ) s))] [] vl_RX2_44 mi_X2_numberIn (c_X2_numberIn l (i := s) (j := (eonS (pv σ) s)) hP (eon_le _ _).1 (by omega)) rfl rfl rfl rfl ⟨Nat.le_of_ble_eq_true rfl, Nat.le_of_ble_eq_true rfl⟩ rfl (Nat.le_of_ble_eq_true rfl) (by decide +kernel) ?_
        refine g_blk (pc' := 44) (loc' := [some (vR (5, 0, 0)), some (vI (nI s)), some (vI (nI i)), some (vI (nI (eonS (pv σ) s))), some (vI (numS (pv σ) s (eonS (pv σ) s))), some (vI (numS (pv σ) s (eonS (pv σ) s))), none]) (st' := [vI (nI (eonS (pv σ) s)), vR (5, 0, 0)]) (σ' := σ) fl2_ok [(36, .istore 4), (38, .iload 4), (40, .istore 5), (42, .aload_n 0), (43, .iload_n 3)] (by decide +kernel) rfl rfl ?_
        refine g_callVp (5, 0, 0) [vI (nI (eonS (pv σ) s))] [] vl_RX2_34 mi_X2_characterAt (c_X2_characterAt l (i := (eonS (pv σ) s)) hP (by omega)) rfl rfl rfl rfl ⟨Nat.le_of_ble_eq_true rfl, Nat.le_of_ble_eq_true rfl⟩ rfl (Nat.le_of_ble_eq_true rfl) (by decide +kernel) ?_
        refine g_blk (pc' := 49) (loc' := [some (vR (5, 0, 0)), some (vI (nI s)), some (vI (nI i)), some (vI (nI (eonS (pv σ) s))), some (vI (numS (pv σ) s (eonS (pv σ) s))), some (vI (numS (pv σ) s (eonS (pv σ) s))), none]) (st' := [vI (45 : Int32), vI ((pv σ).2 (eonS (pv σ) s))]) (σ' := σ) fl2_ok [(47, .bipush 45)] (by decide +kernel) rfl rfl ?_
        refine g_icmp_ne (off := 40) (tgt := 89) (by decide +kernel) (by decide) (fun zc49 => ?_) (fun zc49 => ?_)
        · refine g_blk (pc' := 94) (loc' := [some (vR (5, 0, 0)), some (vI (nI s)), some (vI (nI i)), some (vI (nI (eonS (pv σ) s))), some (vI (numS (pv σ) s (eonS (pv σ) s))), some (vI (numS (pv σ) s (eonS (pv σ) s))), none]) (st' := [vI (numS (pv σ) s (eonS (pv σ) s)), vI (numS (pv σ) s (eonS (pv σ) s)), vR (5, 0, 0)]) (σ' := σ) fl2_ok [(89, .aload_n 0), (90, .iload 4), (92, .iload 5)] (by decide +kernel) rfl rfl ?_
          refine g_callV (5, 0, 0) [vI (numS (pv σ) s (eonS (pv σ) s)), vI (numS (pv σ) s (eonS (pv σ) s))] [] vl_RX2_48 mi_X2_addPart (c_X2_addPart l hTW.2.1 (by have hin0 := eon_in zc25; omega) (numS (pv σ) s (eonS (pv σ) s)) (numS (pv σ) s (eonS (pv σ) s))) rfl rfl rfl rfl ⟨Nat.le_of_ble_eq_true rfl, Nat.le_of_ble_eq_true rfl⟩ rfl (Nat.le_of_ble_eq_true rfl) (by decide +kernel) (fun o σ1 hPσ1 => ?_)
          obtain ⟨rfl, hWσ1⟩ := hPσ1
          refine g_blk (pc' := 102) (loc' := [some (vR (5, 0, 0)), some (vI (nI s)), some (vI (nI i)), some (vI (nI (eonS (pv σ) s))), some (vI (numS (pv σ) s (eonS (pv σ) s))), some (vI (numS (pv σ) s (eonS (pv σ) s))), none]) (st' := [vI (σ1.1 (5, 0, 0) 1), vI (nI (eonS (pv σ) s))]) (σ' := σ1) fl2_ok [(97, .iload_n 3), (98, .aload_n 0), (99, .getfield 30)] (by decide +kernel) rfl rfl ?_
          refine g_icmp_ne (off := 6) (tgt := 108) (by decide +kernel) (by decide) (fun zc102 => ?_) (fun zc102 => ?_)
          · rw [(tw_pad hWσ1).2 hP |>.2, show pN σ1 = (pv σ).1 from congrArg Prod.fst (tw_pad hWσ1).1, nI_eq (by omega) (show (pv σ).1 < 2 ^ 31 from Nat.lt_of_le_of_lt hp60 (by decide))] at zc102
            refine g_blk (pc' := 110) (loc' := [some (vR (5, 0, 0)), some (vI (nI s)), some (vI (nI i)), some (vI (nI (eonS (pv σ) s))), some (vI (numS (pv σ) s (eonS (pv σ) s))), some (vI (numS (pv σ) s (eonS (pv σ) s))), none]) (st' := [vI (nI (eonS (pv σ) s)), vR (5, 0, 0)]) (σ' := σ1) fl2_ok [(108, .aload_n 0), (109, .iload_n 3)] (by decide +kernel) rfl rfl ?_
            refine g_callVp (5, 0, 0) [vI (nI (eonS (pv σ) s))] [] vl_RX2_34 mi_X2_characterAt (c_X2_characterAt l (i := (eonS (pv σ) s)) ((tw_pad hWσ1).2 hP) (by omega)) rfl rfl rfl rfl ⟨Nat.le_of_ble_eq_true rfl, Nat.le_of_ble_eq_true rfl⟩ rfl (Nat.le_of_ble_eq_true rfl) (by decide +kernel) ?_
            refine g_blk (pc' := 115) (loc' := [some (vR (5, 0, 0)), some (vI (nI s)), some (vI (nI i)), some (vI (nI (eonS (pv σ) s))), some (vI (numS (pv σ) s (eonS (pv σ) s))), some (vI (numS (pv σ) s (eonS (pv σ) s))), none]) (st' := [vI (44 : Int32), vI ((pv σ1).2 (eonS (pv σ) s))]) (σ' := σ1) fl2_ok [(113, .bipush 44)] (by decide +kernel) rfl rfl ?_
            refine g_icmp_eq (off := 5) (tgt := 120) (by decide +kernel) (by decide) (fun zc115 => ?_) (fun zc115 => ?_)
            · rw [(tw_pad hWσ1).1] at zc115
              refine g_blk (pc' := 11) (loc' := [some (vR (5, 0, 0)), some (vI ((nI (eonS (pv σ) s)) + (1 : Int32))), some (vI ((nI i) + (1 : Int32))), some (vI (nI (eonS (pv σ) s))), some (vI (numS (pv σ) s (eonS (pv σ) s))), some (vI (numS (pv σ) s (eonS (pv σ) s))), none]) (st' := []) (σ' := σ1) fl2_ok [(120, .iload_n 3), (121, .iconst 1), (122, .iadd), (123, .istore_n 1), (124, .iinc 2 1), (127, .goto (-116))] (by decide +kernel) rfl rfl ?_
              rw [rdF, if_pos zc25, if_pos zc49, if_pos zc102, if_pos zc115] at hd
              have hin := pv_in zc115
              have htp := tw_pad hWσ1
              have hTn : tN σ1 5 0 = i + 1 := by
                have e : (tabs σ1 5 0).1 = tN σ 5 0 + 1 := by rw [hWσ1.1]; rfl
                rw [← hTi]; exact e
              rw [nI_1, nI_1]
              refine g_sub (loc' := [some (vR (5, 0, 0)), some (vI (nI ((eonS (pv σ) s) + 1))), some (vI (nI (i + 1))), none, none, none, none]) ⟨Or.inr rfl, Or.inr rfl, Or.inr rfl, Or.inl rfl, Or.inl rfl, Or.inl rfl, Or.inr rfl, trivial⟩ ?_
              exact ih ((eonS (pv σ) s) + 1) (i + 1) σ1 (by omega) (htp.2 hP) (by rw [htp.1]; exact hpv) (by omega) (by omega) (by rw [hTW.1] at hWσ1; exact hTW.tr hWσ1) hTn (by rw [htp.1]; exact hd)
            · rw [(tw_pad hWσ1).1] at zc115
              refine g_blk (pc' := 119) (loc' := [some (vR (5, 0, 0)), some (vI (nI s)), some (vI (nI i)), some (vI (nI (eonS (pv σ) s))), some (vI (numS (pv σ) s (eonS (pv σ) s))), some (vI (numS (pv σ) s (eonS (pv σ) s))), none]) (st' := [vI (nI (eonS (pv σ) s))]) (σ' := σ1) fl2_ok [(118, .iload_n 3)] (by decide +kernel) rfl rfl ?_
              rw [rdF, if_pos zc25, if_pos zc49, if_pos zc102, if_neg zc115] at hd
              exact g_iret (by decide +kernel) ⟨by rw [← hd], by rw [← hd]; rw [hTW.1] at hWσ1; exact hTW.tr hWσ1⟩
          · rw [(tw_pad hWσ1).2 hP |>.2, show pN σ1 = (pv σ).1 from congrArg Prod.fst (tw_pad hWσ1).1, nI_eq (by omega) (show (pv σ).1 < 2 ^ 31 from Nat.lt_of_le_of_lt hp60 (by decide))] at zc102
            refine g_blk (pc' := 107) (loc' := [some (vR (5, 0, 0)), some (vI (nI s)), some (vI (nI i)), some (vI (nI (eonS (pv σ) s))), some (vI (numS (pv σ) s (eonS (pv σ) s))), some (vI (numS (pv σ) s (eonS (pv σ) s))), none]) (st' := [vI (-6 : Int32)]) (σ' := σ1) fl2_ok [(105, .bipush (-6))] (by decide +kernel) rfl rfl ?_
            rw [rdF, if_pos zc25, if_pos zc49, if_neg (not_not_intro zc102)] at hd
            exact g_iret (by decide +kernel) ⟨by rw [← hd], by rw [← hd]; rw [hTW.1] at hWσ1; exact hTW.tr hWσ1⟩
        · refine g_blk (pc' := 60) (loc' := [some (vR (5, 0, 0)), some (vI (nI s)), some (vI (nI i)), some (vI (nI (eonS (pv σ) s))), some (vI (numS (pv σ) s (eonS (pv σ) s))), some (vI (numS (pv σ) s (eonS (pv σ) s))), some (vI ((nI (eonS (pv σ) s)) + (1 : Int32)))]) (st' := [vI ((nI (eonS (pv σ) s)) + (1 : Int32)), vR (5, 0, 0)]) (σ' := σ) fl2_ok [(52, .iload_n 3), (53, .iconst 1), (54, .iadd), (55, .istore 6), (57, .aload_n 0), (58, .iload 6)] (by decide +kernel) rfl rfl ?_
          rw [nI_1]
          refine g_callVp (5, 0, 0) [vI (nI ((eonS (pv σ) s) + 1))] [] vl_RX2_41 mi_X2_endOfNumber (c_X2_endOfNumber l (i := ((eonS (pv σ) s) + 1)) hP (by omega)) rfl rfl rfl rfl ⟨Nat.le_of_ble_eq_true rfl, Nat.le_of_ble_eq_true rfl⟩ rfl (Nat.le_of_ble_eq_true rfl) (by decide +kernel) ?_
          refine g_blk (pc' := 68) (loc' := [some (vR (5, 0, 0)), some (vI (nI s)), some (vI (nI i)), some (vI (nI (eonS (pv σ) ((eonS (pv σ) s) + 1)))), some (vI (numS (pv σ) s (eonS (pv σ) s))), some (vI (numS (pv σ) s (eonS (pv σ) s))), some (vI (nI ((eonS (pv σ) s) + 1)))]) (st' := [vI (nI (eonS (pv σ) ((eonS (pv σ) s) + 1))), vI (nI ((eonS (pv σ) s) + 1)), vR (5, 0, 0)]) (σ' := σ) fl2_ok [(63, .istore_n 3), (64, .aload_n 0), (65, .iload 6), (67, .iload_n 3)] (by decide +kernel) rfl rfl ?_
          refine g_callVp (5, 0, 0) [vI (nI ((eonS (pv σ) s) + 1)), vI (nI (eonS (pv σ) ((eonS (pv σ) s) + 1)))] [] vl_RX2_44 mi_X2_numberIn (c_X2_numberIn l (i := ((eonS (pv σ) s) + 1)) (j := (eonS (pv σ) ((eonS (pv σ) s) + 1))) hP (eon_le _ _).1 (by omega)) rfl rfl rfl rfl ⟨Nat.le_of_ble_eq_true rfl, Nat.le_of_ble_eq_true rfl⟩ rfl (Nat.le_of_ble_eq_true rfl) (by decide +kernel) ?_
          refine g_blk (pc' := 76) (loc' := [some (vR (5, 0, 0)), some (vI (nI s)), some (vI (nI i)), some (vI (nI (eonS (pv σ) ((eonS (pv σ) s) + 1)))), some (vI (numS (pv σ) s (eonS (pv σ) s))), some (vI (numS (pv σ) ((eonS (pv σ) s) + 1) (eonS (pv σ) ((eonS (pv σ) s) + 1)))), some (vI (nI ((eonS (pv σ) s) + 1)))]) (st' := [vI (nI ((eonS (pv σ) s) + 1)), vI (nI (eonS (pv σ) ((eonS (pv σ) s) + 1)))]) (σ' := σ) fl2_ok [(71, .istore 5), (73, .iload_n 3), (74, .iload 6)] (by decide +kernel) rfl rfl ?_
          refine g_icmp_eq (off := 10) (tgt := 86) (by decide +kernel) (by decide) (fun zc76 => ?_) (fun zc76 => ?_)
          · rw [nI_eq (by omega) (by omega)] at zc76
            refine g_blk (pc' := 88) (loc' := [some (vR (5, 0, 0)), some (vI (nI s)), some (vI (nI i)), some (vI (nI (eonS (pv σ) ((eonS (pv σ) s) + 1)))), some (vI (numS (pv σ) s (eonS (pv σ) s))), some (vI (numS (pv σ) ((eonS (pv σ) s) + 1) (eonS (pv σ) ((eonS (pv σ) s) + 1)))), some (vI (nI ((eonS (pv σ) s) + 1)))]) (st' := [vI (nI ((eonS (pv σ) s) + 1))]) (σ' := σ) fl2_ok [(86, .iload 6)] (by decide +kernel) rfl rfl ?_
            rw [rdF, if_pos zc25, if_neg (not_not_intro zc49), if_pos zc76] at hd
            exact g_iret (by decide +kernel) ⟨by rw [← hd], by rw [← hd]; exact hTW⟩
          · rw [nI_eq (by omega) (by omega)] at zc76
            refine g_blk (pc' := 83) (loc' := [some (vR (5, 0, 0)), some (vI (nI s)), some (vI (nI i)), some (vI (nI (eonS (pv σ) ((eonS (pv σ) s) + 1)))), some (vI (numS (pv σ) s (eonS (pv σ) s))), some (vI (numS (pv σ) ((eonS (pv σ) s) + 1) (eonS (pv σ) ((eonS (pv σ) s) + 1)))), some (vI (nI ((eonS (pv σ) s) + 1)))]) (st' := [vI (numS (pv σ) s (eonS (pv σ) s)), vI (numS (pv σ) ((eonS (pv σ) s) + 1) (eonS (pv σ) ((eonS (pv σ) s) + 1)))]) (σ' := σ) fl2_ok [(79, .iload 5), (81, .iload 4)] (by decide +kernel) rfl rfl ?_
            refine g_icmp_ge (off := 6) (tgt := 89) (by decide +kernel) (by decide) (fun zc83 => ?_) (fun zc83 => ?_)
            · refine g_blk (pc' := 94) (loc' := [some (vR (5, 0, 0)), some (vI (nI s)), some (vI (nI i)), some (vI (nI (eonS (pv σ) ((eonS (pv σ) s) + 1)))), some (vI (numS (pv σ) s (eonS (pv σ) s))), some (vI (numS (pv σ) ((eonS (pv σ) s) + 1) (eonS (pv σ) ((eonS (pv σ) s) + 1)))), some (vI (nI ((eonS (pv σ) s) + 1)))]) (st' := [vI (numS (pv σ) ((eonS (pv σ) s) + 1) (eonS (pv σ) ((eonS (pv σ) s) + 1))), vI (numS (pv σ) s (eonS (pv σ) s)), vR (5, 0, 0)]) (σ' := σ) fl2_ok [(89, .aload_n 0), (90, .iload 4), (92, .iload 5)] (by decide +kernel) rfl rfl ?_
              refine g_callV (5, 0, 0) [vI (numS (pv σ) s (eonS (pv σ) s)), vI (numS (pv σ) ((eonS (pv σ) s) + 1) (eonS (pv σ) ((eonS (pv σ) s) + 1)))] [] vl_RX2_48 mi_X2_addPart (c_X2_addPart l hTW.2.1 (by have hin0 := eon_in zc25; omega) (numS (pv σ) s (eonS (pv σ) s)) (numS (pv σ) ((eonS (pv σ) s) + 1) (eonS (pv σ) ((eonS (pv σ) s) + 1)))) rfl rfl rfl rfl ⟨Nat.le_of_ble_eq_true rfl, Nat.le_of_ble_eq_true rfl⟩ rfl (Nat.le_of_ble_eq_true rfl) (by decide +kernel) (fun o σ2 hPσ2 => ?_)
              obtain ⟨rfl, hWσ2⟩ := hPσ2
              refine g_blk (pc' := 102) (loc' := [some (vR (5, 0, 0)), some (vI (nI s)), some (vI (nI i)), some (vI (nI (eonS (pv σ) ((eonS (pv σ) s) + 1)))), some (vI (numS (pv σ) s (eonS (pv σ) s))), some (vI (numS (pv σ) ((eonS (pv σ) s) + 1) (eonS (pv σ) ((eonS (pv σ) s) + 1)))), some (vI (nI ((eonS (pv σ) s) + 1)))]) (st' := [vI (σ2.1 (5, 0, 0) 1), vI (nI (eonS (pv σ) ((eonS (pv σ) s) + 1)))]) (σ' := σ2) fl2_ok [(97, .iload_n 3), (98, .aload_n 0), (99, .getfield 30)] (by decide +kernel) rfl rfl ?_
              refine g_icmp_ne (off := 6) (tgt := 108) (by decide +kernel) (by decide) (fun zc102 => ?_) (fun zc102 => ?_)
              · rw [(tw_pad hWσ2).2 hP |>.2, show pN σ2 = (pv σ).1 from congrArg Prod.fst (tw_pad hWσ2).1, nI_eq (by omega) (show (pv σ).1 < 2 ^ 31 from Nat.lt_of_le_of_lt hp60 (by decide))] at zc102
                refine g_blk (pc' := 110) (loc' := [some (vR (5, 0, 0)), some (vI (nI s)), some (vI (nI i)), some (vI (nI (eonS (pv σ) ((eonS (pv σ) s) + 1)))), some (vI (numS (pv σ) s (eonS (pv σ) s))), some (vI (numS (pv σ) ((eonS (pv σ) s) + 1) (eonS (pv σ) ((eonS (pv σ) s) + 1)))), some (vI (nI ((eonS (pv σ) s) + 1)))]) (st' := [vI (nI (eonS (pv σ) ((eonS (pv σ) s) + 1))), vR (5, 0, 0)]) (σ' := σ2) fl2_ok [(108, .aload_n 0), (109, .iload_n 3)] (by decide +kernel) rfl rfl ?_
                refine g_callVp (5, 0, 0) [vI (nI (eonS (pv σ) ((eonS (pv σ) s) + 1)))] [] vl_RX2_34 mi_X2_characterAt (c_X2_characterAt l (i := (eonS (pv σ) ((eonS (pv σ) s) + 1))) ((tw_pad hWσ2).2 hP) (by omega)) rfl rfl rfl rfl ⟨Nat.le_of_ble_eq_true rfl, Nat.le_of_ble_eq_true rfl⟩ rfl (Nat.le_of_ble_eq_true rfl) (by decide +kernel) ?_
                refine g_blk (pc' := 115) (loc' := [some (vR (5, 0, 0)), some (vI (nI s)), some (vI (nI i)), some (vI (nI (eonS (pv σ) ((eonS (pv σ) s) + 1)))), some (vI (numS (pv σ) s (eonS (pv σ) s))), some (vI (numS (pv σ) ((eonS (pv σ) s) + 1) (eonS (pv σ) ((eonS (pv σ) s) + 1)))), some (vI (nI ((eonS (pv σ) s) + 1)))]) (st' := [vI (44 : Int32), vI ((pv σ2).2 (eonS (pv σ) ((eonS (pv σ) s) + 1)))]) (σ' := σ2) fl2_ok [(113, .bipush 44)] (by decide +kernel) rfl rfl ?_
                refine g_icmp_eq (off := 5) (tgt := 120) (by decide +kernel) (by decide) (fun zc115 => ?_) (fun zc115 => ?_)
                · rw [(tw_pad hWσ2).1] at zc115
                  refine g_blk (pc' := 11) (loc' := [some (vR (5, 0, 0)), some (vI ((nI (eonS (pv σ) ((eonS (pv σ) s) + 1))) + (1 : Int32))), some (vI ((nI i) + (1 : Int32))), some (vI (nI (eonS (pv σ) ((eonS (pv σ) s) + 1)))), some (vI (numS (pv σ) s (eonS (pv σ) s))), some (vI (numS (pv σ) ((eonS (pv σ) s) + 1) (eonS (pv σ) ((eonS (pv σ) s) + 1)))), some (vI (nI ((eonS (pv σ) s) + 1)))]) (st' := []) (σ' := σ2) fl2_ok [(120, .iload_n 3), (121, .iconst 1), (122, .iadd), (123, .istore_n 1), (124, .iinc 2 1), (127, .goto (-116))] (by decide +kernel) rfl rfl ?_
                  rw [rdF, if_pos zc25, if_neg (not_not_intro zc49), if_neg zc76, if_pos zc83, if_pos zc102, if_pos zc115] at hd
                  have hin := pv_in zc115
                  have htp := tw_pad hWσ2
                  have hTn : tN σ2 5 0 = i + 1 := by
                    have e : (tabs σ2 5 0).1 = tN σ 5 0 + 1 := by rw [hWσ2.1]; rfl
                    rw [← hTi]; exact e
                  rw [nI_1, nI_1]
                  refine g_sub (loc' := [some (vR (5, 0, 0)), some (vI (nI ((eonS (pv σ) ((eonS (pv σ) s) + 1)) + 1))), some (vI (nI (i + 1))), none, none, none, none]) ⟨Or.inr rfl, Or.inr rfl, Or.inr rfl, Or.inl rfl, Or.inl rfl, Or.inl rfl, Or.inl rfl, trivial⟩ ?_
                  exact ih ((eonS (pv σ) ((eonS (pv σ) s) + 1)) + 1) (i + 1) σ2 (by omega) (htp.2 hP) (by rw [htp.1]; exact hpv) (by omega) (by omega) (by rw [hTW.1] at hWσ2; exact hTW.tr hWσ2) hTn (by rw [htp.1]; exact hd)
                · rw [(tw_pad hWσ2).1] at zc115
                  refine g_blk (pc' := 119) (loc' := [some (vR (5, 0, 0)), some (vI (nI s)), some (vI (nI i)), some (vI (nI (eonS (pv σ) ((eonS (pv σ) s) + 1)))), some (vI (numS (pv σ) s (eonS (pv σ) s))), some (vI (numS (pv σ) ((eonS (pv σ) s) + 1) (eonS (pv σ) ((eonS (pv σ) s) + 1)))), some (vI (nI ((eonS (pv σ) s) + 1)))]) (st' := [vI (nI (eonS (pv σ) ((eonS (pv σ) s) + 1)))]) (σ' := σ2) fl2_ok [(118, .iload_n 3)] (by decide +kernel) rfl rfl ?_
                  rw [rdF, if_pos zc25, if_neg (not_not_intro zc49), if_neg zc76, if_pos zc83, if_pos zc102, if_neg zc115] at hd
                  exact g_iret (by decide +kernel) ⟨by rw [← hd], by rw [← hd]; rw [hTW.1] at hWσ2; exact hTW.tr hWσ2⟩
              · rw [(tw_pad hWσ2).2 hP |>.2, show pN σ2 = (pv σ).1 from congrArg Prod.fst (tw_pad hWσ2).1, nI_eq (by omega) (show (pv σ).1 < 2 ^ 31 from Nat.lt_of_le_of_lt hp60 (by decide))] at zc102
                refine g_blk (pc' := 107) (loc' := [some (vR (5, 0, 0)), some (vI (nI s)), some (vI (nI i)), some (vI (nI (eonS (pv σ) ((eonS (pv σ) s) + 1)))), some (vI (numS (pv σ) s (eonS (pv σ) s))), some (vI (numS (pv σ) ((eonS (pv σ) s) + 1) (eonS (pv σ) ((eonS (pv σ) s) + 1)))), some (vI (nI ((eonS (pv σ) s) + 1)))]) (st' := [vI (-6 : Int32)]) (σ' := σ2) fl2_ok [(105, .bipush (-6))] (by decide +kernel) rfl rfl ?_
                rw [rdF, if_pos zc25, if_neg (not_not_intro zc49), if_neg zc76, if_pos zc83, if_neg (not_not_intro zc102)] at hd
                exact g_iret (by decide +kernel) ⟨by rw [← hd], by rw [← hd]; rw [hTW.1] at hWσ2; exact hTW.tr hWσ2⟩
            · refine g_blk (pc' := 88) (loc' := [some (vR (5, 0, 0)), some (vI (nI s)), some (vI (nI i)), some (vI (nI (eonS (pv σ) ((eonS (pv σ) s) + 1)))), some (vI (numS (pv σ) s (eonS (pv σ) s))), some (vI (numS (pv σ) ((eonS (pv σ) s) + 1) (eonS (pv σ) ((eonS (pv σ) s) + 1)))), some (vI (nI ((eonS (pv σ) s) + 1)))]) (st' := [vI (nI ((eonS (pv σ) s) + 1))]) (σ' := σ) fl2_ok [(86, .iload 6)] (by decide +kernel) rfl rfl ?_
              rw [rdF, if_pos zc25, if_neg (not_not_intro zc49), if_neg zc76, if_neg zc83] at hd
              exact g_iret (by decide +kernel) ⟨by rw [← hd], by rw [← hd]; exact hTW⟩
      · rw [nI_eq (by omega) (by omega)] at zc25
        refine g_blk (pc' := 29) (loc' := [some (vR (5, 0, 0)), some (vI (nI s)), some (vI (nI i)), some (vI (nI (eonS (pv σ) s))), none, none, none]) (st' := [vI (nI s)]) (σ' := σ) fl2_ok [(28, .iload_n 1)] (by decide +kernel) rfl rfl ?_
        rw [rdF, if_neg (not_not_intro zc25)] at hd
        exact g_iret (by decide +kernel) ⟨by rw [← hd], by rw [← hd]; exact hTW⟩
set_option maxHeartbeats 2000000 in
theorem c_X2_read (l : Launch) {σ : Sg}  (hP : PadOK σ) (hT : TOK σ 5 0) : Con l 3 yX2_read cX2_read 7 (some .int) [vR (5, 0, 0)] σ (fun o σ' => o = some (vI (rdF (pv σ) 61 0 (0, fun _ _ => 0)).1) ∧ TW 5 0 (rdF (pv σ) 61 0 (0, fun _ _ => 0)).2 σ σ') := by
  refine con_of pn_X2_read (Nat.le_of_ble_eq_true rfl) (fun hPK hok => ?_)
  show G l (Rm 3) RX2 cX2_read 7 (some .int) _ 0 [some (vR (5, 0, 0)), none, none, none, none, none, none] [] σ
  refine g_blk (pc' := 4) (loc' := [some (vR (5, 0, 0)), none, none, none, none, none, none]) (st' := [vR (0, 5, 0)]) (σ' := σ) fl2_ok [(0, .aload_n 0), (1, .getfield 20)] (by decide +kernel) rfl rfl ?_
  refine g_callV (0, 5, 0) [] [] vl_RX2_38 mi_X3_clear (c_X3_clear l hT) rfl rfl rfl rfl ⟨Nat.le_of_ble_eq_true rfl, Nat.le_of_ble_eq_true rfl⟩ rfl (Nat.le_of_ble_eq_true rfl) (by decide +kernel) (fun o σ1 hPσ1 => ?_)
  obtain ⟨rfl, hWσ1⟩ := hPσ1
  refine g_blk (pc' := 11) (loc' := [some (vR (5, 0, 0)), some (vI (0 : Int32)), some (vI (0 : Int32)), none, none, none, none]) (st' := []) (σ' := σ1) fl2_ok [(7, .iconst 0), (8, .istore_n 1), (9, .iconst 0), (10, .istore_n 2)] (by decide +kernel) rfl rfl ?_
  have htp := tw_pad hWσ1
  refine g_sub (loc' := [some (vR (5, 0, 0)), some (vI (nI 0)), some (vI (nI 0)), none, none, none, none]) ⟨Or.inr rfl, Or.inr rfl, Or.inr rfl, Or.inr rfl, Or.inr rfl, Or.inr rfl, Or.inr rfl, trivial⟩ ?_
  exact lp_X2_read l 61 0 0 σ1 (by omega) (htp.2 hP) htp.1 (by omega) (by omega) hWσ1 (congrArg Prod.fst hWσ1.1) (by rw [htp.1])
