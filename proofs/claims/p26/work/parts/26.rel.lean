/-! THE SAME DATA in the class's house and in the model's row (laid by wip/whole/mk26.py) -/
def ce (S : HA) (j r c : Nat) : Int32 := (S.1 j).2 r c
def Wc (S : HA) (j r c : Nat) (v : Int32) : HA := setT S j ((S.1 j).1, fun r' c' => if r' = r ∧ c' = c then v else (S.1 j).2 r' c')
theorem sz_W {S : HA} {j r c j' : Nat} {v : Int32} : sz (Wc S j r c v) j' = sz S j' := by
  show (if j' = j then ((S.1 j).1, _) else S.1 j').1 = (S.1 j').1
  by_cases h : j' = j
  · rw [if_pos h, h]
  · rw [if_neg h]
theorem ce_W {S : HA} {j r c r' c' : Nat} {v : Int32} : ce (Wc S j r c v) j r' c' = if r' = r ∧ c' = c then v else ce S j r' c' := by
  show ((if j = j then ((S.1 j).1, fun r' c' => if r' = r ∧ c' = c then v else (S.1 j).2 r' c') else S.1 j) : TV).2 r' c' = _
  rw [if_pos rfl]
  rfl
theorem ce_W_ne {S : HA} {j r c j' r' c' : Nat} {v : Int32} (h : j' ≠ j) : ce (Wc S j r c v) j' r' c' = ce S j' r' c' := by
  show ((if j' = j then _ else S.1 j') : TV).2 r' c' = _
  rw [if_neg h]
  rfl
theorem ce_W_c {S : HA} {j r c r' c' : Nat} {v : Int32} (h : c' ≠ c) : ce (Wc S j r c v) j r' c' = ce S j r' c' := by
  rw [ce_W, if_neg (fun z => h z.2)]
theorem ce_W_r {S : HA} {j r c r' c' : Nat} {v : Int32} (h : r' ≠ r) : ce (Wc S j r c v) j r' c' = ce S j r' c' := by
  rw [ce_W, if_neg (fun z => h z.1)]
theorem ce_W_at {S : HA} {j r c : Nat} {v : Int32} : ce (Wc S j r c v) j r c = v := by rw [ce_W, if_pos ⟨rfl, rfl⟩]
theorem W_2 {S : HA} {j r c : Nat} {v : Int32} : (Wc S j r c v).2 = S.2 := rfl
theorem ce_F {S : HA} {k j r c : Nat} {x : Int32} : ce (setF S k x) j r c = ce S j r c := rfl
theorem sz_F {S : HA} {k j : Nat} {x : Int32} : sz (setF S k x) j = sz S j := rfl
theorem F_at {S : HA} {k : Nat} {x : Int32} : (setF S k x).2 k = x := if_pos rfl
theorem F_ne {S : HA} {k k' : Nat} {x : Int32} (h : k' ≠ k) : (setF S k x).2 k' = S.2 k' := if_neg h
theorem sz_T {S : HA} {j : Nat} {T : TV} : sz (setT S j T) j = T.1 := by rw [sz, setT_at]
theorem sz_T_ne {S : HA} {j j' : Nat} {T : TV} (h : j' ≠ j) : sz (setT S j T) j' = sz S j' := by
  show (if j' = j then T else S.1 j').1 = (S.1 j').1
  rw [if_neg h]
theorem ce_T {S : HA} {j r c : Nat} {T : TV} : ce (setT S j T) j r c = T.2 r c := by rw [ce, setT_at]
theorem ce_T_ne {S : HA} {j j' r c : Nat} {T : TV} (h : j' ≠ j) : ce (setT S j T) j' r c = ce S j' r c := by
  show (if j' = j then T else S.1 j').2 r c = (S.1 j').2 r c
  rw [if_neg h]
theorem cl_n {S : HA} {j r c : Nat} (hr : r < 2 ^ 31) (hc : c < 2 ^ 31) : cl S j (nI r) (nI c) = ce S j r c := tcell_nI hr hc
theorem wr_n {S : HA} {j r c : Nat} {v : Int32} (hr : r < sz S j) (hc : c < wid j) (h31 : sz S j < 2 ^ 31) : wr S j (nI r) (nI c) v = Wc S j r c v := by
  have := wid_le j
  rw [wr, twr_nI hr hc (Nat.lt_trans hr h31) (by omega)]
  rfl
theorem cl0 {S : HA} {j r : Nat} (hr : r < 2 ^ 31) : cl S j (nI r) 0 = ce S j r 0 := cl_n hr (c := 0) (by decide)
theorem wc0 {S : HA} {j r : Nat} {v : Int32} (hr : r < sz S j) (hc : 0 < wid j) (h31 : sz S j < 2 ^ 31) : wr S j (nI r) 0 v = Wc S j r 0 v := wr_n hr (c := 0) hc h31
theorem inc0 {S : HA} {j r : Nat} {v : Int32} (hr : r < sz S j) (hc : 0 < wid j) (h31 : sz S j < 2 ^ 31) : inc S j (nI r) 0 v = Wc S j r 0 (ce S j r 0 + v) := by rw [inc, wc0 hr hc h31, cl0 (by omega)]
theorem cl1 {S : HA} {j r : Nat} (hr : r < 2 ^ 31) : cl S j (nI r) 1 = ce S j r 1 := cl_n hr (c := 1) (by decide)
theorem wc1 {S : HA} {j r : Nat} {v : Int32} (hr : r < sz S j) (hc : 1 < wid j) (h31 : sz S j < 2 ^ 31) : wr S j (nI r) 1 v = Wc S j r 1 v := wr_n hr (c := 1) hc h31
theorem inc1 {S : HA} {j r : Nat} {v : Int32} (hr : r < sz S j) (hc : 1 < wid j) (h31 : sz S j < 2 ^ 31) : inc S j (nI r) 1 v = Wc S j r 1 (ce S j r 1 + v) := by rw [inc, wc1 hr hc h31, cl1 (by omega)]
theorem cl2 {S : HA} {j r : Nat} (hr : r < 2 ^ 31) : cl S j (nI r) 2 = ce S j r 2 := cl_n hr (c := 2) (by decide)
theorem wc2 {S : HA} {j r : Nat} {v : Int32} (hr : r < sz S j) (hc : 2 < wid j) (h31 : sz S j < 2 ^ 31) : wr S j (nI r) 2 v = Wc S j r 2 v := wr_n hr (c := 2) hc h31
theorem inc2 {S : HA} {j r : Nat} {v : Int32} (hr : r < sz S j) (hc : 2 < wid j) (h31 : sz S j < 2 ^ 31) : inc S j (nI r) 2 v = Wc S j r 2 (ce S j r 2 + v) := by rw [inc, wc2 hr hc h31, cl2 (by omega)]
theorem cl3 {S : HA} {j r : Nat} (hr : r < 2 ^ 31) : cl S j (nI r) 3 = ce S j r 3 := cl_n hr (c := 3) (by decide)
theorem wc3 {S : HA} {j r : Nat} {v : Int32} (hr : r < sz S j) (hc : 3 < wid j) (h31 : sz S j < 2 ^ 31) : wr S j (nI r) 3 v = Wc S j r 3 v := wr_n hr (c := 3) hc h31
theorem inc3 {S : HA} {j r : Nat} {v : Int32} (hr : r < sz S j) (hc : 3 < wid j) (h31 : sz S j < 2 ^ 31) : inc S j (nI r) 3 v = Wc S j r 3 (ce S j r 3 + v) := by rw [inc, wc3 hr hc h31, cl3 (by omega)]
theorem cl4 {S : HA} {j r : Nat} (hr : r < 2 ^ 31) : cl S j (nI r) 4 = ce S j r 4 := cl_n hr (c := 4) (by decide)
theorem wc4 {S : HA} {j r : Nat} {v : Int32} (hr : r < sz S j) (hc : 4 < wid j) (h31 : sz S j < 2 ^ 31) : wr S j (nI r) 4 v = Wc S j r 4 v := wr_n hr (c := 4) hc h31
theorem inc4 {S : HA} {j r : Nat} {v : Int32} (hr : r < sz S j) (hc : 4 < wid j) (h31 : sz S j < 2 ^ 31) : inc S j (nI r) 4 v = Wc S j r 4 (ce S j r 4 + v) := by rw [inc, wc4 hr hc h31, cl4 (by omega)]
theorem cl5 {S : HA} {j r : Nat} (hr : r < 2 ^ 31) : cl S j (nI r) 5 = ce S j r 5 := cl_n hr (c := 5) (by decide)
theorem wc5 {S : HA} {j r : Nat} {v : Int32} (hr : r < sz S j) (hc : 5 < wid j) (h31 : sz S j < 2 ^ 31) : wr S j (nI r) 5 v = Wc S j r 5 v := wr_n hr (c := 5) hc h31
theorem inc5 {S : HA} {j r : Nat} {v : Int32} (hr : r < sz S j) (hc : 5 < wid j) (h31 : sz S j < 2 ^ 31) : inc S j (nI r) 5 v = Wc S j r 5 (ce S j r 5 + v) := by rw [inc, wc5 hr hc h31, cl5 (by omega)]
theorem cl6 {S : HA} {j r : Nat} (hr : r < 2 ^ 31) : cl S j (nI r) 6 = ce S j r 6 := cl_n hr (c := 6) (by decide)
theorem wc6 {S : HA} {j r : Nat} {v : Int32} (hr : r < sz S j) (hc : 6 < wid j) (h31 : sz S j < 2 ^ 31) : wr S j (nI r) 6 v = Wc S j r 6 v := wr_n hr (c := 6) hc h31
theorem inc6 {S : HA} {j r : Nat} {v : Int32} (hr : r < sz S j) (hc : 6 < wid j) (h31 : sz S j < 2 ^ 31) : inc S j (nI r) 6 v = Wc S j r 6 (ce S j r 6 + v) := by rw [inc, wc6 hr hc h31, cl6 (by omega)]
def ES (S : HA) (f : Nat → Int32) : Prop := f 0 = S.2 5 ∧ f 4 = S.2 6 ∧ f 5 = S.2 7 ∧ f 6 = S.2 8
def EC (S : HA) (f : Nat → Int32) : Prop := f 1 = nI (sz S 0) ∧ f 2 = nI (sz S 1) ∧ f 3 = nI (sz S 2) ∧ f 7 = nI (sz S 3)
def EB (S : HA) : Prop := sz S 0 ≤ 8 ∧ sz S 1 ≤ 6 ∧ sz S 2 ≤ 12 ∧ sz S 3 ≤ 6
def EG (S : HA) (f : Nat → Int32) : Prop := ∀ j, j < 4 → f (8 + j) = ce S 4 0 j
def EO (S : HA) (f : Nat → Int32) : Prop := ∀ r, r < sz S 0 → mo f r 0 = ce S 0 r 0 ∧ mo f r 1 = ce S 0 r 3 ∧ mo f r 2 = ce S 0 r 4 ∧ mo f r 3 = ce S 0 r 5 ∧ ∀ w, w ≤ 999 → isInS (nI w) (mo f r 4) (mo f r 5) = isInS (nI w) (ce S 0 r 1) (ce S 0 r 2)
def EA (S : HA) (f : Nat → Int32) : Prop := ∀ a c, a < sz S 1 → c < 5 → ma f a c = ce S 1 a c
def EK (S : HA) (f : Nat → Int32) : Prop := ∀ t c, t < sz S 2 → c < 5 → mk f t c = ce S 2 t c
def EW (S : HA) (f : Nat → Int32) : Prop := ∀ s c, s < sz S 3 → c < 2 → mw f s c = ce S 3 s c
def ED (S : HA) (f : Nat → Int32) : Prop := EB S ∧ ES S f ∧ EC S f ∧ EG S f ∧ EO S f ∧ EA S f ∧ EK S f ∧ EW S f
theorem e_so0 {S : HA} {f : Nat → Int32} {r : Nat} (h : ED S f) (hr : r < sz S 0) (v : Int32) : ED (Wc S 0 r 0 v) (so f r 0 v) := by
  obtain ⟨⟨hb0, hb1, hb2, hb3⟩, ⟨hs0, hs4, hs5, hs6⟩, ⟨hc1, hc2, hc3, hc7⟩, hg, ho, ha, hk, hw⟩ := h
  refine ⟨?_, ?_, ?_, ?_, ?_, ?_, ?_, ?_⟩
  · exact ⟨by rw [sz_W]; exact hb0, by rw [sz_W]; exact hb1, by rw [sz_W]; exact hb2, by rw [sz_W]; exact hb3⟩
  · exact ⟨by rw [so_lo (by decide)]; exact hs0, by rw [so_lo (by decide)]; exact hs4, by rw [so_lo (by decide)]; exact hs5, by rw [so_lo (by decide)]; exact hs6⟩
  · exact ⟨by rw [so_lo (by decide), sz_W]; exact hc1, by rw [so_lo (by decide), sz_W]; exact hc2, by rw [so_lo (by decide), sz_W]; exact hc3, by rw [so_lo (by decide), sz_W]; exact hc7⟩
  · intro j hj
    rw [so_lo (by omega), ce_W_ne (by decide)]; exact hg j hj
  · intro r1 hr1
    rw [sz_W] at hr1
    obtain ⟨o0, o1, o2, o3, o4⟩ := ho r1 hr1
    refine ⟨?_, ?_, ?_, ?_, fun w hw => ?_⟩
    · rw [mo_so (by decide) (by decide), ce_W]
      by_cases q : r1 = r
      · rw [if_pos ⟨q, rfl⟩, if_pos ⟨q, rfl⟩]
      · rw [if_neg (fun z => q z.1), if_neg (fun z => q z.1)]; exact o0
    · rw [mo_so_ne (by decide) (by decide) (by omega), ce_W_c (by decide)]; exact o1
    · rw [mo_so_ne (by decide) (by decide) (by omega), ce_W_c (by decide)]; exact o2
    · rw [mo_so_ne (by decide) (by decide) (by omega), ce_W_c (by decide)]; exact o3
    · rw [mo_so_ne (by decide) (by decide) (by omega), mo_so_ne (by decide) (by decide) (by omega), ce_W_c (by decide), ce_W_c (by decide)]; exact o4 w hw
  · intro a c h1 h2
    rw [sz_W] at h1
    rw [ma_so (by omega) (by decide), ce_W_ne (by decide)]; exact ha a c h1 h2
  · intro t c h1 h2
    rw [sz_W] at h1
    rw [mk_so (by omega) (by decide), ce_W_ne (by decide)]; exact hk t c h1 h2
  · intro s c h1 h2
    rw [sz_W] at h1
    rw [mw_so (by omega) (by decide), ce_W_ne (by decide)]; exact hw s c h1 h2
theorem e_so3 {S : HA} {f : Nat → Int32} {r : Nat} (h : ED S f) (hr : r < sz S 0) (v : Int32) : ED (Wc S 0 r 3 v) (so f r 1 v) := by
  obtain ⟨⟨hb0, hb1, hb2, hb3⟩, ⟨hs0, hs4, hs5, hs6⟩, ⟨hc1, hc2, hc3, hc7⟩, hg, ho, ha, hk, hw⟩ := h
  refine ⟨?_, ?_, ?_, ?_, ?_, ?_, ?_, ?_⟩
  · exact ⟨by rw [sz_W]; exact hb0, by rw [sz_W]; exact hb1, by rw [sz_W]; exact hb2, by rw [sz_W]; exact hb3⟩
  · exact ⟨by rw [so_lo (by decide)]; exact hs0, by rw [so_lo (by decide)]; exact hs4, by rw [so_lo (by decide)]; exact hs5, by rw [so_lo (by decide)]; exact hs6⟩
  · exact ⟨by rw [so_lo (by decide), sz_W]; exact hc1, by rw [so_lo (by decide), sz_W]; exact hc2, by rw [so_lo (by decide), sz_W]; exact hc3, by rw [so_lo (by decide), sz_W]; exact hc7⟩
  · intro j hj
    rw [so_lo (by omega), ce_W_ne (by decide)]; exact hg j hj
  · intro r1 hr1
    rw [sz_W] at hr1
    obtain ⟨o0, o1, o2, o3, o4⟩ := ho r1 hr1
    refine ⟨?_, ?_, ?_, ?_, fun w hw => ?_⟩
    · rw [mo_so_ne (by decide) (by decide) (by omega), ce_W_c (by decide)]; exact o0
    · rw [mo_so (by decide) (by decide), ce_W]
      by_cases q : r1 = r
      · rw [if_pos ⟨q, rfl⟩, if_pos ⟨q, rfl⟩]
      · rw [if_neg (fun z => q z.1), if_neg (fun z => q z.1)]; exact o1
    · rw [mo_so_ne (by decide) (by decide) (by omega), ce_W_c (by decide)]; exact o2
    · rw [mo_so_ne (by decide) (by decide) (by omega), ce_W_c (by decide)]; exact o3
    · rw [mo_so_ne (by decide) (by decide) (by omega), mo_so_ne (by decide) (by decide) (by omega), ce_W_c (by decide), ce_W_c (by decide)]; exact o4 w hw
  · intro a c h1 h2
    rw [sz_W] at h1
    rw [ma_so (by omega) (by decide), ce_W_ne (by decide)]; exact ha a c h1 h2
  · intro t c h1 h2
    rw [sz_W] at h1
    rw [mk_so (by omega) (by decide), ce_W_ne (by decide)]; exact hk t c h1 h2
  · intro s c h1 h2
    rw [sz_W] at h1
    rw [mw_so (by omega) (by decide), ce_W_ne (by decide)]; exact hw s c h1 h2
theorem e_so4 {S : HA} {f : Nat → Int32} {r : Nat} (h : ED S f) (hr : r < sz S 0) (v : Int32) : ED (Wc S 0 r 4 v) (so f r 2 v) := by
  obtain ⟨⟨hb0, hb1, hb2, hb3⟩, ⟨hs0, hs4, hs5, hs6⟩, ⟨hc1, hc2, hc3, hc7⟩, hg, ho, ha, hk, hw⟩ := h
  refine ⟨?_, ?_, ?_, ?_, ?_, ?_, ?_, ?_⟩
  · exact ⟨by rw [sz_W]; exact hb0, by rw [sz_W]; exact hb1, by rw [sz_W]; exact hb2, by rw [sz_W]; exact hb3⟩
  · exact ⟨by rw [so_lo (by decide)]; exact hs0, by rw [so_lo (by decide)]; exact hs4, by rw [so_lo (by decide)]; exact hs5, by rw [so_lo (by decide)]; exact hs6⟩
  · exact ⟨by rw [so_lo (by decide), sz_W]; exact hc1, by rw [so_lo (by decide), sz_W]; exact hc2, by rw [so_lo (by decide), sz_W]; exact hc3, by rw [so_lo (by decide), sz_W]; exact hc7⟩
  · intro j hj
    rw [so_lo (by omega), ce_W_ne (by decide)]; exact hg j hj
  · intro r1 hr1
    rw [sz_W] at hr1
    obtain ⟨o0, o1, o2, o3, o4⟩ := ho r1 hr1
    refine ⟨?_, ?_, ?_, ?_, fun w hw => ?_⟩
    · rw [mo_so_ne (by decide) (by decide) (by omega), ce_W_c (by decide)]; exact o0
    · rw [mo_so_ne (by decide) (by decide) (by omega), ce_W_c (by decide)]; exact o1
    · rw [mo_so (by decide) (by decide), ce_W]
      by_cases q : r1 = r
      · rw [if_pos ⟨q, rfl⟩, if_pos ⟨q, rfl⟩]
      · rw [if_neg (fun z => q z.1), if_neg (fun z => q z.1)]; exact o2
    · rw [mo_so_ne (by decide) (by decide) (by omega), ce_W_c (by decide)]; exact o3
    · rw [mo_so_ne (by decide) (by decide) (by omega), mo_so_ne (by decide) (by decide) (by omega), ce_W_c (by decide), ce_W_c (by decide)]; exact o4 w hw
  · intro a c h1 h2
    rw [sz_W] at h1
    rw [ma_so (by omega) (by decide), ce_W_ne (by decide)]; exact ha a c h1 h2
  · intro t c h1 h2
    rw [sz_W] at h1
    rw [mk_so (by omega) (by decide), ce_W_ne (by decide)]; exact hk t c h1 h2
  · intro s c h1 h2
    rw [sz_W] at h1
    rw [mw_so (by omega) (by decide), ce_W_ne (by decide)]; exact hw s c h1 h2
theorem e_so5 {S : HA} {f : Nat → Int32} {r : Nat} (h : ED S f) (hr : r < sz S 0) (v : Int32) : ED (Wc S 0 r 5 v) (so f r 3 v) := by
  obtain ⟨⟨hb0, hb1, hb2, hb3⟩, ⟨hs0, hs4, hs5, hs6⟩, ⟨hc1, hc2, hc3, hc7⟩, hg, ho, ha, hk, hw⟩ := h
  refine ⟨?_, ?_, ?_, ?_, ?_, ?_, ?_, ?_⟩
  · exact ⟨by rw [sz_W]; exact hb0, by rw [sz_W]; exact hb1, by rw [sz_W]; exact hb2, by rw [sz_W]; exact hb3⟩
  · exact ⟨by rw [so_lo (by decide)]; exact hs0, by rw [so_lo (by decide)]; exact hs4, by rw [so_lo (by decide)]; exact hs5, by rw [so_lo (by decide)]; exact hs6⟩
  · exact ⟨by rw [so_lo (by decide), sz_W]; exact hc1, by rw [so_lo (by decide), sz_W]; exact hc2, by rw [so_lo (by decide), sz_W]; exact hc3, by rw [so_lo (by decide), sz_W]; exact hc7⟩
  · intro j hj
    rw [so_lo (by omega), ce_W_ne (by decide)]; exact hg j hj
  · intro r1 hr1
    rw [sz_W] at hr1
    obtain ⟨o0, o1, o2, o3, o4⟩ := ho r1 hr1
    refine ⟨?_, ?_, ?_, ?_, fun w hw => ?_⟩
    · rw [mo_so_ne (by decide) (by decide) (by omega), ce_W_c (by decide)]; exact o0
    · rw [mo_so_ne (by decide) (by decide) (by omega), ce_W_c (by decide)]; exact o1
    · rw [mo_so_ne (by decide) (by decide) (by omega), ce_W_c (by decide)]; exact o2
    · rw [mo_so (by decide) (by decide), ce_W]
      by_cases q : r1 = r
      · rw [if_pos ⟨q, rfl⟩, if_pos ⟨q, rfl⟩]
      · rw [if_neg (fun z => q z.1), if_neg (fun z => q z.1)]; exact o3
    · rw [mo_so_ne (by decide) (by decide) (by omega), mo_so_ne (by decide) (by decide) (by omega), ce_W_c (by decide), ce_W_c (by decide)]; exact o4 w hw
  · intro a c h1 h2
    rw [sz_W] at h1
    rw [ma_so (by omega) (by decide), ce_W_ne (by decide)]; exact ha a c h1 h2
  · intro t c h1 h2
    rw [sz_W] at h1
    rw [mk_so (by omega) (by decide), ce_W_ne (by decide)]; exact hk t c h1 h2
  · intro s c h1 h2
    rw [sz_W] at h1
    rw [mw_so (by omega) (by decide), ce_W_ne (by decide)]; exact hw s c h1 h2
theorem e_6 {S : HA} {f : Nat → Int32} {r : Nat} (h : ED S f) (v : Int32) : ED (Wc S 0 r 6 v) (f) := by
  obtain ⟨⟨hb0, hb1, hb2, hb3⟩, ⟨hs0, hs4, hs5, hs6⟩, ⟨hc1, hc2, hc3, hc7⟩, hg, ho, ha, hk, hw⟩ := h
  refine ⟨?_, ?_, ?_, ?_, ?_, ?_, ?_, ?_⟩
  · exact ⟨by rw [sz_W]; exact hb0, by rw [sz_W]; exact hb1, by rw [sz_W]; exact hb2, by rw [sz_W]; exact hb3⟩
  · exact ⟨hs0, hs4, hs5, hs6⟩
  · exact ⟨by rw [sz_W]; exact hc1, by rw [sz_W]; exact hc2, by rw [sz_W]; exact hc3, by rw [sz_W]; exact hc7⟩
  · intro j hj
    rw [ce_W_ne (by decide)]; exact hg j hj
  · intro r1 hr1
    rw [sz_W] at hr1
    obtain ⟨o0, o1, o2, o3, o4⟩ := ho r1 hr1
    refine ⟨?_, ?_, ?_, ?_, fun w hw => ?_⟩
    · rw [ce_W_c (by decide)]; exact o0
    · rw [ce_W_c (by decide)]; exact o1
    · rw [ce_W_c (by decide)]; exact o2
    · rw [ce_W_c (by decide)]; exact o3
    · rw [ce_W_c (by decide), ce_W_c (by decide)]; exact o4 w hw
  · intro a c h1 h2
    rw [sz_W] at h1
    rw [ce_W_ne (by decide)]; exact ha a c h1 h2
  · intro t c h1 h2
    rw [sz_W] at h1
    rw [ce_W_ne (by decide)]; exact hk t c h1 h2
  · intro s c h1 h2
    rw [sz_W] at h1
    rw [ce_W_ne (by decide)]; exact hw s c h1 h2
theorem e_sA {S : HA} {f : Nat → Int32} {a c : Nat} (h : ED S f) (hi : a < sz S 1) (hc : c < 5) (v : Int32) : ED (Wc S 1 a c v) (sA f a c v) := by
  obtain ⟨⟨hb0, hb1, hb2, hb3⟩, ⟨hs0, hs4, hs5, hs6⟩, ⟨hc1, hc2, hc3, hc7⟩, hg, ho, ha, hk, hw⟩ := h
  refine ⟨?_, ?_, ?_, ?_, ?_, ?_, ?_, ?_⟩
  · exact ⟨by rw [sz_W]; exact hb0, by rw [sz_W]; exact hb1, by rw [sz_W]; exact hb2, by rw [sz_W]; exact hb3⟩
  · exact ⟨by rw [sA_lo (by decide)]; exact hs0, by rw [sA_lo (by decide)]; exact hs4, by rw [sA_lo (by decide)]; exact hs5, by rw [sA_lo (by decide)]; exact hs6⟩
  · exact ⟨by rw [sA_lo (by decide), sz_W]; exact hc1, by rw [sA_lo (by decide), sz_W]; exact hc2, by rw [sA_lo (by decide), sz_W]; exact hc3, by rw [sA_lo (by decide), sz_W]; exact hc7⟩
  · intro j hj
    rw [sA_lo (by omega), ce_W_ne (by decide)]; exact hg j hj
  · intro r1 hr1
    rw [sz_W] at hr1
    rw [mo_sA (by omega) (by decide), mo_sA (by omega) (by decide), mo_sA (by omega) (by decide), mo_sA (by omega) (by decide), mo_sA (by omega) (by decide), mo_sA (by omega) (by decide)]
    simp only [ce_W_ne (show 0 ≠ 1 by decide)]
    exact ho r1 hr1
  · intro a1 c1 h1 h2
    rw [sz_W] at h1
    rw [ma_sA hc h2, ce_W, ha a1 c1 h1 h2]
  · intro t c1 h1 h2
    rw [sz_W] at h1
    rw [mk_sA (by omega) hc, ce_W_ne (by decide)]; exact hk t c1 h1 h2
  · intro s c1 h1 h2
    rw [sz_W] at h1
    rw [mw_sA (by omega) hc, ce_W_ne (by decide)]; exact hw s c1 h1 h2
theorem e_sk {S : HA} {f : Nat → Int32} {t c : Nat} (h : ED S f) (hi : t < sz S 2) (hc : c < 5) (v : Int32) : ED (Wc S 2 t c v) (sk f t c v) := by
  obtain ⟨⟨hb0, hb1, hb2, hb3⟩, ⟨hs0, hs4, hs5, hs6⟩, ⟨hc1, hc2, hc3, hc7⟩, hg, ho, ha, hk, hw⟩ := h
  refine ⟨?_, ?_, ?_, ?_, ?_, ?_, ?_, ?_⟩
  · exact ⟨by rw [sz_W]; exact hb0, by rw [sz_W]; exact hb1, by rw [sz_W]; exact hb2, by rw [sz_W]; exact hb3⟩
  · exact ⟨by rw [sk_lo (by decide)]; exact hs0, by rw [sk_lo (by decide)]; exact hs4, by rw [sk_lo (by decide)]; exact hs5, by rw [sk_lo (by decide)]; exact hs6⟩
  · exact ⟨by rw [sk_lo (by decide), sz_W]; exact hc1, by rw [sk_lo (by decide), sz_W]; exact hc2, by rw [sk_lo (by decide), sz_W]; exact hc3, by rw [sk_lo (by decide), sz_W]; exact hc7⟩
  · intro j hj
    rw [sk_lo (by omega), ce_W_ne (by decide)]; exact hg j hj
  · intro r1 hr1
    rw [sz_W] at hr1
    rw [mo_sk (by omega) (by decide), mo_sk (by omega) (by decide), mo_sk (by omega) (by decide), mo_sk (by omega) (by decide), mo_sk (by omega) (by decide), mo_sk (by omega) (by decide)]
    simp only [ce_W_ne (show 0 ≠ 2 by decide)]
    exact ho r1 hr1
  · intro a1 c1 h1 h2
    rw [sz_W] at h1
    rw [ma_sk (by omega) h2, ce_W_ne (by decide)]; exact ha a1 c1 h1 h2
  · intro t1 c1 h1 h2
    rw [sz_W] at h1
    rw [mk_sk hc h2, ce_W, hk t1 c1 h1 h2]
  · intro s c1 h1 h2
    rw [sz_W] at h1
    rw [mw_sk (by omega) hc, ce_W_ne (by decide)]; exact hw s c1 h1 h2
theorem e_f5 {S : HA} {f : Nat → Int32}  (h : ED S f) (v : Int32) : ED (setF S 5 v) (upd f 0 v) := by
  obtain ⟨⟨hb0, hb1, hb2, hb3⟩, ⟨hs0, hs4, hs5, hs6⟩, ⟨hc1, hc2, hc3, hc7⟩, hg, ho, ha, hk, hw⟩ := h
  refine ⟨?_, ?_, ?_, ?_, ?_, ?_, ?_, ?_⟩
  · exact ⟨hb0, hb1, hb2, hb3⟩
  · exact ⟨by rw [up_at, F_at], by rw [up_ne (by decide), F_ne (by decide)]; exact hs4, by rw [up_ne (by decide), F_ne (by decide)]; exact hs5, by rw [up_ne (by decide), F_ne (by decide)]; exact hs6⟩
  · exact ⟨by rw [up_ne (by decide)]; exact hc1, by rw [up_ne (by decide)]; exact hc2, by rw [up_ne (by decide)]; exact hc3, by rw [up_ne (by decide)]; exact hc7⟩
  · intro j hj
    rw [up_ne (by omega)]; exact hg j hj
  · intro r1 hr1
    simp only [mo_up (show 0 < 12 by decide)]
    exact ho r1 hr1
  · intro a c h1 h2
    rw [ma_up (by decide)]; exact ha a c h1 h2
  · intro t c h1 h2
    rw [mk_up (by decide)]; exact hk t c h1 h2
  · intro s c h1 h2
    rw [mw_up (by decide)]; exact hw s c h1 h2
theorem e_f6 {S : HA} {f : Nat → Int32}  (h : ED S f) (v : Int32) : ED (setF S 6 v) (upd f 4 v) := by
  obtain ⟨⟨hb0, hb1, hb2, hb3⟩, ⟨hs0, hs4, hs5, hs6⟩, ⟨hc1, hc2, hc3, hc7⟩, hg, ho, ha, hk, hw⟩ := h
  refine ⟨?_, ?_, ?_, ?_, ?_, ?_, ?_, ?_⟩
  · exact ⟨hb0, hb1, hb2, hb3⟩
  · exact ⟨by rw [up_ne (by decide), F_ne (by decide)]; exact hs0, by rw [up_at, F_at], by rw [up_ne (by decide), F_ne (by decide)]; exact hs5, by rw [up_ne (by decide), F_ne (by decide)]; exact hs6⟩
  · exact ⟨by rw [up_ne (by decide)]; exact hc1, by rw [up_ne (by decide)]; exact hc2, by rw [up_ne (by decide)]; exact hc3, by rw [up_ne (by decide)]; exact hc7⟩
  · intro j hj
    rw [up_ne (by omega)]; exact hg j hj
  · intro r1 hr1
    simp only [mo_up (show 4 < 12 by decide)]
    exact ho r1 hr1
  · intro a c h1 h2
    rw [ma_up (by decide)]; exact ha a c h1 h2
  · intro t c h1 h2
    rw [mk_up (by decide)]; exact hk t c h1 h2
  · intro s c h1 h2
    rw [mw_up (by decide)]; exact hw s c h1 h2
theorem e_f7 {S : HA} {f : Nat → Int32}  (h : ED S f) (v : Int32) : ED (setF S 7 v) (upd f 5 v) := by
  obtain ⟨⟨hb0, hb1, hb2, hb3⟩, ⟨hs0, hs4, hs5, hs6⟩, ⟨hc1, hc2, hc3, hc7⟩, hg, ho, ha, hk, hw⟩ := h
  refine ⟨?_, ?_, ?_, ?_, ?_, ?_, ?_, ?_⟩
  · exact ⟨hb0, hb1, hb2, hb3⟩
  · exact ⟨by rw [up_ne (by decide), F_ne (by decide)]; exact hs0, by rw [up_ne (by decide), F_ne (by decide)]; exact hs4, by rw [up_at, F_at], by rw [up_ne (by decide), F_ne (by decide)]; exact hs6⟩
  · exact ⟨by rw [up_ne (by decide)]; exact hc1, by rw [up_ne (by decide)]; exact hc2, by rw [up_ne (by decide)]; exact hc3, by rw [up_ne (by decide)]; exact hc7⟩
  · intro j hj
    rw [up_ne (by omega)]; exact hg j hj
  · intro r1 hr1
    simp only [mo_up (show 5 < 12 by decide)]
    exact ho r1 hr1
  · intro a c h1 h2
    rw [ma_up (by decide)]; exact ha a c h1 h2
  · intro t c h1 h2
    rw [mk_up (by decide)]; exact hk t c h1 h2
  · intro s c h1 h2
    rw [mw_up (by decide)]; exact hw s c h1 h2
theorem e_f8 {S : HA} {f : Nat → Int32}  (h : ED S f) (v : Int32) : ED (setF S 8 v) (upd f 6 v) := by
  obtain ⟨⟨hb0, hb1, hb2, hb3⟩, ⟨hs0, hs4, hs5, hs6⟩, ⟨hc1, hc2, hc3, hc7⟩, hg, ho, ha, hk, hw⟩ := h
  refine ⟨?_, ?_, ?_, ?_, ?_, ?_, ?_, ?_⟩
  · exact ⟨hb0, hb1, hb2, hb3⟩
  · exact ⟨by rw [up_ne (by decide), F_ne (by decide)]; exact hs0, by rw [up_ne (by decide), F_ne (by decide)]; exact hs4, by rw [up_ne (by decide), F_ne (by decide)]; exact hs5, by rw [up_at, F_at]⟩
  · exact ⟨by rw [up_ne (by decide)]; exact hc1, by rw [up_ne (by decide)]; exact hc2, by rw [up_ne (by decide)]; exact hc3, by rw [up_ne (by decide)]; exact hc7⟩
  · intro j hj
    rw [up_ne (by omega)]; exact hg j hj
  · intro r1 hr1
    simp only [mo_up (show 6 < 12 by decide)]
    exact ho r1 hr1
  · intro a c h1 h2
    rw [ma_up (by decide)]; exact ha a c h1 h2
  · intro t c h1 h2
    rw [mk_up (by decide)]; exact hk t c h1 h2
  · intro s c h1 h2
    rw [mw_up (by decide)]; exact hw s c h1 h2
theorem e_set {S : HA} {f : Nat → Int32} {j0 : Nat} (h : ED S f) (h4 : j0 < 4) (v : Int32) : ED (Wc S 4 0 j0 v) (upd f (8 + j0) v) := by
  obtain ⟨⟨hb0, hb1, hb2, hb3⟩, ⟨hs0, hs4, hs5, hs6⟩, ⟨hc1, hc2, hc3, hc7⟩, hg, ho, ha, hk, hw⟩ := h
  refine ⟨?_, ?_, ?_, ?_, ?_, ?_, ?_, ?_⟩
  · exact ⟨by rw [sz_W]; exact hb0, by rw [sz_W]; exact hb1, by rw [sz_W]; exact hb2, by rw [sz_W]; exact hb3⟩
  · exact ⟨by rw [up_ne (by omega)]; exact hs0, by rw [up_ne (by omega)]; exact hs4, by rw [up_ne (by omega)]; exact hs5, by rw [up_ne (by omega)]; exact hs6⟩
  · exact ⟨by rw [up_ne (by omega), sz_W]; exact hc1, by rw [up_ne (by omega), sz_W]; exact hc2, by rw [up_ne (by omega), sz_W]; exact hc3, by rw [up_ne (by omega), sz_W]; exact hc7⟩
  · intro j hj
    by_cases q : j = j0
    · rw [q, up_at, ce_W_at]
    · rw [up_ne (by omega), ce_W_c q]; exact hg j hj
  · intro r1 hr1
    rw [sz_W] at hr1
    simp only [mo_up (show 8 + j0 < 12 by omega), ce_W_ne (show 0 ≠ 4 by decide)]
    exact ho r1 hr1
  · intro a c h1 h2
    rw [sz_W] at h1
    rw [ma_up (by omega), ce_W_ne (by decide)]; exact ha a c h1 h2
  · intro t c h1 h2
    rw [sz_W] at h1
    rw [mk_up (by omega), ce_W_ne (by decide)]; exact hk t c h1 h2
  · intro s c h1 h2
    rw [sz_W] at h1
    rw [mw_up (by omega), ce_W_ne (by decide)]; exact hw s c h1 h2
theorem e_ct {S : HA} {f : Nat → Int32}  (h : ED S f)  : ED (setT S 2 (0, fun _ _ => 0)) (upd f 3 0) := by
  obtain ⟨⟨hb0, hb1, hb2, hb3⟩, ⟨hs0, hs4, hs5, hs6⟩, ⟨hc1, hc2, hc3, hc7⟩, hg, ho, ha, hk, hw⟩ := h
  refine ⟨?_, ?_, ?_, ?_, ?_, ?_, ?_, ?_⟩
  · exact ⟨by rw [sz_T_ne (by decide)]; exact hb0, by rw [sz_T_ne (by decide)]; exact hb1, by rw [sz_T]; exact Nat.zero_le _, by rw [sz_T_ne (by decide)]; exact hb3⟩
  · exact ⟨by rw [up_ne (by decide)]; exact hs0, by rw [up_ne (by decide)]; exact hs4, by rw [up_ne (by decide)]; exact hs5, by rw [up_ne (by decide)]; exact hs6⟩
  · exact ⟨by rw [up_ne (by decide), sz_T_ne (by decide)]; exact hc1, by rw [up_ne (by decide), sz_T_ne (by decide)]; exact hc2, by rw [up_at, sz_T]; rfl, by rw [up_ne (by decide), sz_T_ne (by decide)]; exact hc7⟩
  · intro j hj
    rw [up_ne (by omega), ce_T_ne (by decide)]; exact hg j hj
  · intro r1 hr1
    rw [sz_T_ne (by decide)] at hr1
    simp only [mo_up (show 3 < 12 by decide), ce_T_ne (show 0 ≠ 2 by decide)]
    exact ho r1 hr1
  · intro a c h1 h2
    rw [sz_T_ne (by decide)] at h1
    rw [ma_up (by decide), ce_T_ne (by decide)]; exact ha a c h1 h2
  · intro t c h1 h2
    rw [sz_T] at h1
    exact absurd h1 (Nat.not_lt_zero _)
  · intro s c h1 h2
    rw [sz_T_ne (by decide)] at h1
    rw [mw_up (by decide), ce_T_ne (by decide)]; exact hw s c h1 h2
theorem e_cs {S : HA} {f : Nat → Int32}  (h : ED S f)  : ED (setT S 3 (0, fun _ _ => 0)) (upd f 7 0) := by
  obtain ⟨⟨hb0, hb1, hb2, hb3⟩, ⟨hs0, hs4, hs5, hs6⟩, ⟨hc1, hc2, hc3, hc7⟩, hg, ho, ha, hk, hw⟩ := h
  refine ⟨?_, ?_, ?_, ?_, ?_, ?_, ?_, ?_⟩
  · exact ⟨by rw [sz_T_ne (by decide)]; exact hb0, by rw [sz_T_ne (by decide)]; exact hb1, by rw [sz_T_ne (by decide)]; exact hb2, by rw [sz_T]; exact Nat.zero_le _⟩
  · exact ⟨by rw [up_ne (by decide)]; exact hs0, by rw [up_ne (by decide)]; exact hs4, by rw [up_ne (by decide)]; exact hs5, by rw [up_ne (by decide)]; exact hs6⟩
  · exact ⟨by rw [up_ne (by decide), sz_T_ne (by decide)]; exact hc1, by rw [up_ne (by decide), sz_T_ne (by decide)]; exact hc2, by rw [up_ne (by decide), sz_T_ne (by decide)]; exact hc3, by rw [up_at, sz_T]; rfl⟩
  · intro j hj
    rw [up_ne (by omega), ce_T_ne (by decide)]; exact hg j hj
  · intro r1 hr1
    rw [sz_T_ne (by decide)] at hr1
    simp only [mo_up (show 7 < 12 by decide), ce_T_ne (show 0 ≠ 3 by decide)]
    exact ho r1 hr1
  · intro a c h1 h2
    rw [sz_T_ne (by decide)] at h1
    rw [ma_up (by decide), ce_T_ne (by decide)]; exact ha a c h1 h2
  · intro t c h1 h2
    rw [sz_T_ne (by decide)] at h1
    rw [mk_up (by decide), ce_T_ne (by decide)]; exact hk t c h1 h2
  · intro s c h1 h2
    rw [sz_T] at h1
    exact absurd h1 (Nat.not_lt_zero _)
