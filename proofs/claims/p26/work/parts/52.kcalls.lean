/-! THE CALLS, over the rota as a value; what the readers answer -/
theorem k_resident (l : Launch) {X X' : XS} {w : Int32} {vv : Int32} (h : xresident X.1 X.2.1 X.2.2 w = (vv, X')) : ∀ σ, XOK σ → xabs σ = X → Con l 4 yX4_resident cX4_resident 2 (some .int) (vR (7, 0, 0) :: [vI w]) σ (fun o σ' => o = some (vI vv) ∧ XW X' σ σ') := fun σ hX hx => by
  subst hx
  have e1 : xresident (habs σ 0) (hist σ) (pv σ) w = (vv, X') := h
  exact con_mono (c_X4_resident l hX w) (fun o σ' hp => by rw [e1] at hp; exact hp)
theorem k_weigh (l : Launch) {X X' : XS} {r : Int32} {w : Int32} {vv : Int32} (h : xweigh X.1 X.2.1 X.2.2 r w = (vv, X')) : ∀ σ, XOK σ → xabs σ = X → Con l 4 yX4_weigh cX4_weigh 3 (some .int) (vR (7, 0, 0) :: [vI r, vI w]) σ (fun o σ' => o = some (vI vv) ∧ XW X' σ σ') := fun σ hX hx => by
  subst hx
  have e1 : xweigh (habs σ 0) (hist σ) (pv σ) r w = (vv, X') := h
  exact con_mono (c_X4_weigh l hX r w) (fun o σ' hp => by rw [e1] at hp; exact hp)
theorem k_away (l : Launch) {X X' : XS} {r : Int32} {f : Int32} {t : Int32} {vv : Int32} (h : xaway X.1 X.2.1 X.2.2 r f t = (vv, X')) : ∀ σ, XOK σ → xabs σ = X → Con l 4 yX4_away cX4_away 4 (some .int) (vR (7, 0, 0) :: [vI r, vI f, vI t]) σ (fun o σ' => o = some (vI vv) ∧ XW X' σ σ') := fun σ hX hx => by
  subst hx
  have e1 : xaway (habs σ 0) (hist σ) (pv σ) r f t = (vv, X') := h
  exact con_mono (c_X4_away l hX r f t) (fun o σ' hp => by rw [e1] at hp; exact hp)
theorem k_area (l : Launch) {X X' : XS} {e : Int32} {p : Int32} {g : Int32} {vv : Int32} (h : xarea X.1 X.2.1 X.2.2 e p g = (vv, X')) : ∀ σ, XOK σ → xabs σ = X → Con l 4 yX4_area cX4_area 4 (some .int) (vR (7, 0, 0) :: [vI e, vI p, vI g]) σ (fun o σ' => o = some (vI vv) ∧ XW X' σ σ') := fun σ hX hx => by
  subst hx
  have e1 : xarea (habs σ 0) (hist σ) (pv σ) e p g = (vv, X') := h
  exact con_mono (c_X4_area l hX e p g) (fun o σ' hp => by rw [e1] at hp; exact hp)
theorem k_set (l : Launch) {X X' : XS} {s : Int32} {v : Int32} {vv : Int32} (h : xset X.1 X.2.1 X.2.2 s v = (vv, X')) : ∀ σ, XOK σ → xabs σ = X → Con l 4 yX4_set cX4_set 3 (some .int) (vR (7, 0, 0) :: [vI s, vI v]) σ (fun o σ' => o = some (vI vv) ∧ XW X' σ σ') := fun σ hX hx => by
  subst hx
  have e1 : xset (habs σ 0) (hist σ) (pv σ) s v = (vv, X') := h
  exact con_mono (c_X4_set l hX s v) (fun o σ' hp => by rw [e1] at hp; exact hp)
theorem k_plan (l : Launch) {X X' : XS} {vv : Int32} (h : xplan X.1 X.2.1 X.2.2 = (vv, X')) : ∀ σ, XOK σ → xabs σ = X → Con l 6 yX4_plan cX4_plan 1 (some .int) (vR (7, 0, 0) :: []) σ (fun o σ' => o = some (vI vv) ∧ XW X' σ σ') := fun σ hX hx => by
  subst hx
  have e1 : xplan (habs σ 0) (hist σ) (pv σ) = (vv, X') := h
  exact con_mono (c_X4_plan l hX) (fun o σ' hp => by rw [e1] at hp; exact hp)
theorem k_done (l : Launch) {X X' : XS} {t : Int32} {vv : Int32} (h : xdone X.1 X.2.1 X.2.2 t = (vv, X')) : ∀ σ, XOK σ → xabs σ = X → Con l 4 yX4_done cX4_done 2 (some .int) (vR (7, 0, 0) :: [vI t]) σ (fun o σ' => o = some (vI vv) ∧ XW X' σ σ') := fun σ hX hx => by
  subst hx
  have e1 : xdone (habs σ 0) (hist σ) (pv σ) t = (vv, X') := h
  exact con_mono (c_X4_done l hX t) (fun o σ' hp => by rw [e1] at hp; exact hp)
theorem k_extra (l : Launch) {X X' : XS} {r : Int32} {a : Int32} {vv : Int32} (h : xextra X.1 X.2.1 X.2.2 r a = (vv, X')) : ∀ σ, XOK σ → xabs σ = X → Con l 4 yX4_extra cX4_extra 3 (some .int) (vR (7, 0, 0) :: [vI r, vI a]) σ (fun o σ' => o = some (vI vv) ∧ XW X' σ σ') := fun σ hX hx => by
  subst hx
  have e1 : xextra (habs σ 0) (hist σ) (pv σ) r a = (vv, X') := h
  exact con_mono (c_X4_extra l hX r a) (fun o σ' hp => by rw [e1] at hp; exact hp)
theorem k_end (l : Launch) {X X' : XS} {vv : Int32} (h : xend X.1 X.2.1 X.2.2 = (vv, X')) : ∀ σ, XOK σ → xabs σ = X → Con l 4 yX4_end cX4_end 1 (some .int) (vR (7, 0, 0) :: []) σ (fun o σ' => o = some (vI vv) ∧ XW X' σ σ') := fun σ hX hx => by
  subst hx
  have e1 : xend (habs σ 0) (hist σ) (pv σ) = (vv, X') := h
  exact con_mono (c_X4_end l hX) (fun o σ' hp => by rw [e1] at hp; exact hp)
theorem k_propose (l : Launch) {X X' : XS} {a : Int32} {b : Int32} {vv : Int32} (h : xpropose X.1 X.2.1 X.2.2 a b = (vv, X')) : ∀ σ, XOK σ → xabs σ = X → Con l 4 yX4_propose cX4_propose 3 (some .int) (vR (7, 0, 0) :: [vI a, vI b]) σ (fun o σ' => o = some (vI vv) ∧ XW X' σ σ') := fun σ hX hx => by
  subst hx
  have e1 : xpropose (habs σ 0) (hist σ) (pv σ) a b = (vv, X') := h
  exact con_mono (c_X4_propose l hX a b) (fun o σ' hp => by rw [e1] at hp; exact hp)
theorem k_answer (l : Launch) {X X' : XS} {s : Int32} {y : Int32} {vv : Int32} (h : xanswer X.1 X.2.1 X.2.2 s y = (vv, X')) : ∀ σ, XOK σ → xabs σ = X → Con l 4 yX4_answer cX4_answer 3 (some .int) (vR (7, 0, 0) :: [vI s, vI y]) σ (fun o σ' => o = some (vI vv) ∧ XW X' σ σ') := fun σ hX hx => by
  subst hx
  have e1 : xanswer (habs σ 0) (hist σ) (pv σ) s y = (vv, X') := h
  exact con_mono (c_X4_answer l hX s y) (fun o σ' hp => by rw [e1] at hp; exact hp)
theorem k_about (l : Launch) {X : XS} {r : Int32} {w : Int32} {vv : Int32} (h : xabout X.1 r w = vv) : ∀ σ, XOK σ → xabs σ = X → Con l 4 yX4_about cX4_about 3 (some .int) (vR (7, 0, 0) :: [vI r, vI w]) σ (fun o σ' => o = some (vI vv) ∧ XW X σ σ') := fun σ hX hx => by
  subst hx; subst h
  exact con_mono (c_X4_about l hX r w) (fun o σ' hp => ⟨hp.1, by rw [hp.2]; exact XW.rf hX⟩)
theorem k_room (l : Launch) {X : XS} {a : Int32} {w : Int32} {vv : Int32} (h : xroom X.1 a w = vv) : ∀ σ, XOK σ → xabs σ = X → Con l 3 yX4_room cX4_room 3 (some .int) (vR (7, 0, 0) :: [vI a, vI w]) σ (fun o σ' => o = some (vI vv) ∧ XW X σ σ') := fun σ hX hx => by
  subst hx; subst h
  exact con_mono (c_X4_room l hX a w) (fun o σ' hp => ⟨hp.1, by rw [hp.2]; exact XW.rf hX⟩)
theorem k_task (l : Launch) {X : XS} {t : Int32} {w : Int32} {vv : Int32} (h : xtask X.1 t w = vv) : ∀ σ, XOK σ → xabs σ = X → Con l 1 yX4_task cX4_task 3 (some .int) (vR (7, 0, 0) :: [vI t, vI w]) σ (fun o σ' => o = some (vI vv) ∧ XW X σ σ') := fun σ hX hx => by
  subst hx; subst h
  exact con_mono (c_X4_task l hX t w) (fun o σ' hp => ⟨hp.1, by rw [hp.2]; exact XW.rf hX⟩)
theorem k_swap (l : Launch) {X : XS} {s : Int32} {w : Int32} {vv : Int32} (h : xswap X.1 s w = vv) : ∀ σ, XOK σ → xabs σ = X → Con l 1 yX4_swap cX4_swap 5 (some .int) (vR (7, 0, 0) :: [vI s, vI w]) σ (fun o σ' => o = some (vI vv) ∧ XW X σ σ') := fun σ hX hx => by
  subst hx; subst h
  exact con_mono (c_X4_swap l hX s w) (fun o σ' hp => ⟨hp.1, by rw [hp.2]; exact XW.rf hX⟩)
theorem k_count (l : Launch) {X : XS} {w : Int32} {vv : Int32} (h : xcount X.1 X.2.1 X.2.2 w = vv) : ∀ σ, XOK σ → xabs σ = X → Con l 4 yX4_count cX4_count 2 (some .int) (vR (7, 0, 0) :: [vI w]) σ (fun o σ' => o = some (vI vv) ∧ XW X σ σ') := fun σ hX hx => by
  subst hx; subst h
  exact con_mono (c_X4_count l hX w) (fun o σ' hp => ⟨hp.1, by rw [hp.2]; exact XW.rf hX⟩)
theorem k_put (l : Launch) {X X' : XS} {x : Int64} {vv : Int32} (h : xput X.1 X.2.1 X.2.2 x = (vv, X')) : ∀ σ, XOK σ → xabs σ = X → Con l 2 yX4_put cX4_put 4 (some .int) (vR (7, 0, 0) :: [vL x]) σ (fun o σ' => o = some (vI vv) ∧ XW X' σ σ') := fun σ hX hx => by
  subst hx
  have e1 : xput (habs σ 0) (hist σ) (pv σ) x = (vv, X') := h
  exact con_mono (c_X4_put l hX) (fun o σ' hp => by rw [e1] at hp; exact hp)
theorem k_wipe (l : Launch) {X X' : XS} {vv : Int32} (h : xwipe X.1 X.2.1 X.2.2 = (vv, X')) : ∀ σ, XOK σ → xabs σ = X → Con l 0 yX4_wipe cX4_wipe 2 (some .int) (vR (7, 0, 0) :: []) σ (fun o σ' => o = some (vI vv) ∧ XW X' σ σ') := fun σ hX hx => by
  subst hx
  have e1 : xwipe (habs σ 0) (hist σ) (pv σ) = (vv, X') := h
  exact con_mono (c_X4_wipe l hX) (fun o σ' hp => by rw [e1] at hp; exact hp)
theorem k_fault (l : Launch) {X : XS} {vv : Int32} (h : xfault X.2.2 = vv) : ∀ σ, XOK σ → xabs σ = X → Con l 4 yX4_fault cX4_fault 1 (some .int) (vR (7, 0, 0) :: []) σ (fun o σ' => o = some (vI vv) ∧ XW X σ σ') := fun σ hX hx => by
  subst hx; subst h
  exact c_X4_fault l hX
theorem k_undo (l : Launch) {X X' : XS} {vv : Int32} (h : xundo X.1 X.2.1 X.2.2 = (vv, X')) : ∀ σ, XOK σ → xabs σ = X → Con l 4 yX4_undo cX4_undo 1 (some .int) (vR (7, 0, 0) :: []) σ (fun o σ' => o = some (vI vv) ∧ XW X' σ σ') := fun σ hX hx => by
  subst hx
  have e1 : xundo (habs σ 0) (hist σ) (pv σ) = (vv, X') := h
  exact con_mono (c_X4_undo l hX) (fun o σ' hp => by rw [e1] at hp; exact hp)
theorem k_load (l : Launch) {X X' : XS} {vv : Int32} (h : xload X.1 X.2.1 X.2.2 = (vv, X')) : ∀ σ, XOK σ → xabs σ = X → Con l 5 yX4_load cX4_load 3 (some .int) (vR (7, 0, 0) :: []) σ (fun o σ' => o = some (vI vv) ∧ XW X' σ σ') := fun σ hX hx => by
  subst hx
  have e1 : xload (habs σ 0) (hist σ) (pv σ) = (vv, X') := h
  exact con_mono (c_X4_load l hX) (fun o σ' hp => by rw [e1] at hp; exact hp)
theorem k_fairer (l : Launch) {X : XS} {w : Int32} {vv : Int32} (h : xfairer X.1 w = vv) : ∀ σ, XOK σ → xabs σ = X → Con l 4 yX4_fairer cX4_fairer 8 (some .int) (vR (7, 0, 0) :: [vI w]) σ (fun o σ' => o = some (vI vv) ∧ XW X σ σ') := fun σ hX hx => by
  subst hx; subst h
  exact con_mono (c_X4_fairer l hX w) (fun o σ' hp => ⟨hp.1, by rw [hp.2]; exact XW.rf hX⟩)
theorem k_forecast (l : Launch) {X : XS} {n : Int32} {w : Int32} {vv : Int32} (h : xforecast X.1 n w = vv) : ∀ σ, XOK σ → xabs σ = X → Con l 6 yX4_forecast cX4_forecast 5 (some .int) (vR (7, 0, 0) :: [vI n, vI w]) σ (fun o σ' => o = some (vI vv) ∧ XW X σ σ') := fun σ hX hx => by
  subst hx; subst h
  exact c_X4_forecast l n w hX
theorem has_lt {r n : Nat} (h : r < n) (hn : n < 2 ^ 31) : ¬ hasT (nI r) n = 0 := by
  rw [hasT, nI_clamp (by omega), if_neg]
  · decide
  · rintro (q | q)
    · exact nI_pos (by omega) q
    · omega
theorem eb31 {S : HA} (hB : EB S) : sz S 0 < 2 ^ 31 ∧ sz S 1 < 2 ^ 31 ∧ sz S 2 < 2 ^ 31 ∧ sz S 3 < 2 ^ 31 := by
  obtain ⟨h0, h1, h2, h3⟩ := hB
  exact ⟨by omega, by omega, by omega, by omega⟩
theorem r_about0 {S : HA} {r : Nat} (hB : EB S) (h : r < sz S 0) : xabout S (nI r) 0 = ce S 0 r 0 := by
  have hb := eb31 hB
  rw [xabout, if_pos (has_lt h (by omega)), show (0 : Int32) = nI 0 from rfl, sw_in (by decide) (by decide)]
  exact cl0 (by omega)
theorem r_about1 {S : HA} {r : Nat} (hB : EB S) (h : r < sz S 0) : xabout S (nI r) 1 = ce S 0 r 3 := by
  have hb := eb31 hB
  rw [xabout, if_pos (has_lt h (by omega)), show (1 : Int32) = nI 1 from rfl, sw_in (by decide) (by decide)]
  exact cl3 (by omega)
theorem r_about2 {S : HA} {r : Nat} (hB : EB S) (h : r < sz S 0) : xabout S (nI r) 2 = ce S 0 r 4 := by
  have hb := eb31 hB
  rw [xabout, if_pos (has_lt h (by omega)), show (2 : Int32) = nI 2 from rfl, sw_in (by decide) (by decide)]
  exact cl4 (by omega)
theorem r_about3 {S : HA} {r : Nat} (hB : EB S) (h : r < sz S 0) : xabout S (nI r) 3 = ce S 0 r 5 := by
  have hb := eb31 hB
  rw [xabout, if_pos (has_lt h (by omega)), show (3 : Int32) = nI 3 from rfl, sw_in (by decide) (by decide)]
  exact cl5 (by omega)
theorem r_about4 {S : HA} {r : Nat} (hB : EB S) (h : r < sz S 0) : xabout S (nI r) 4 = loadS S (nI r) := by
  have hb := eb31 hB
  rw [xabout, if_pos (has_lt h (by omega)), show (4 : Int32) = nI 4 from rfl, sw_in (by decide) (by decide)]
  rfl
theorem r_about5 {S : HA} {r : Nat} (hB : EB S) (h : r < sz S 0) : xabout S (nI r) 5 = rateS S (nI r) (ce S 0 r 3) := by
  have hb := eb31 hB
  rw [xabout, if_pos (has_lt h (by omega)), show (5 : Int32) = nI 5 from rfl, sw_in (by decide) (by decide)]
  show rateS S (nI r) (cl S 0 (nI r) 3) = _
  rw [cl3 (by omega)]
theorem r_about6 {S : HA} {r : Nat} (hB : EB S) (h : r < sz S 0) : xabout S (nI r) 6 = cntOL S (nI r) (sz S 2) := by
  have hb := eb31 hB
  rw [xabout, if_pos (has_lt h (by omega)), show (6 : Int32) = nI 6 from rfl, sw_in (by decide) (by decide)]
  rfl
theorem r_about7 {S : HA} {r : Nat} (hB : EB S) (h : r < sz S 0) : xabout S (nI r) 7 = firstF S (nI r) (sz S 2) 0 := by
  have hb := eb31 hB
  rw [xabout, if_pos (has_lt h (by omega)), show (7 : Int32) = nI 7 from rfl, sw_in (by decide) (by decide)]
  rfl
theorem r_about8 {S : HA} {r : Nat} (hB : EB S) (h : r < sz S 0) : xabout S (nI r) 8 = bitS (awayS S (nI r)) := by
  have hb := eb31 hB
  rw [xabout, if_pos (has_lt h (by omega)), show (8 : Int32) = nI 8 from rfl, sw_in (by decide) (by decide)]
  rfl
theorem r_room0 {S : HA} {r : Nat} (hB : EB S) (h : r < sz S 1) : xroom S (nI r) 0 = ce S 1 r 0 := by
  have hb := eb31 hB
  rw [xroom, if_pos (has_lt h (by omega)), show (0 : Int32) = nI 0 from rfl, sw_in (by decide) (by decide)]
  exact cl0 (by omega)
theorem r_room1 {S : HA} {r : Nat} (hB : EB S) (h : r < sz S 1) : xroom S (nI r) 1 = ce S 1 r 1 := by
  have hb := eb31 hB
  rw [xroom, if_pos (has_lt h (by omega)), show (1 : Int32) = nI 1 from rfl, sw_in (by decide) (by decide)]
  exact cl1 (by omega)
theorem r_room2 {S : HA} {r : Nat} (hB : EB S) (h : r < sz S 1) : xroom S (nI r) 2 = ce S 1 r 2 := by
  have hb := eb31 hB
  rw [xroom, if_pos (has_lt h (by omega)), show (2 : Int32) = nI 2 from rfl, sw_in (by decide) (by decide)]
  exact cl2 (by omega)
theorem r_room3 {S : HA} {r : Nat} (hB : EB S) (h : r < sz S 1) : xroom S (nI r) 3 = ce S 1 r 3 := by
  have hb := eb31 hB
  rw [xroom, if_pos (has_lt h (by omega)), show (3 : Int32) = nI 3 from rfl, sw_in (by decide) (by decide)]
  exact cl3 (by omega)
theorem r_room4 {S : HA} {r : Nat} (hB : EB S) (h : r < sz S 1) : xroom S (nI r) 4 = bitS (deepS S (nI r)) := by
  have hb := eb31 hB
  rw [xroom, if_pos (has_lt h (by omega)), show (4 : Int32) = nI 4 from rfl, sw_in (by decide) (by decide)]
  rfl
theorem r_room5 {S : HA} {r : Nat} (hB : EB S) (h : r < sz S 1) : xroom S (nI r) 5 = bitS (dueS S (nI r)) := by
  have hb := eb31 hB
  rw [xroom, if_pos (has_lt h (by omega)), show (5 : Int32) = nI 5 from rfl, sw_in (by decide) (by decide)]
  rfl
theorem r_room6 {S : HA} {r : Nat} (hB : EB S) (h : r < sz S 1) : xroom S (nI r) 6 = ce S 1 r 4 := by
  have hb := eb31 hB
  rw [xroom, if_pos (has_lt h (by omega)), show (6 : Int32) = nI 6 from rfl, sw_in (by decide) (by decide)]
  exact cl4 (by omega)
theorem r_task0 {S : HA} {r : Nat} (hB : EB S) (h : r < sz S 2) : xtask S (nI r) 0 = ce S 2 r 0 := by
  have hb := eb31 hB
  rw [xtask, if_pos (has_lt h (by omega)), show (0 : Int32) = nI 0 from rfl, sw_in (by decide) (by decide)]
  exact cl0 (by omega)
theorem r_task1 {S : HA} {r : Nat} (hB : EB S) (h : r < sz S 2) : xtask S (nI r) 1 = ce S 2 r 1 := by
  have hb := eb31 hB
  rw [xtask, if_pos (has_lt h (by omega)), show (1 : Int32) = nI 1 from rfl, sw_in (by decide) (by decide)]
  exact cl1 (by omega)
theorem r_task2 {S : HA} {r : Nat} (hB : EB S) (h : r < sz S 2) : xtask S (nI r) 2 = ce S 2 r 2 := by
  have hb := eb31 hB
  rw [xtask, if_pos (has_lt h (by omega)), show (2 : Int32) = nI 2 from rfl, sw_in (by decide) (by decide)]
  exact cl2 (by omega)
theorem r_task3 {S : HA} {r : Nat} (hB : EB S) (h : r < sz S 2) : xtask S (nI r) 3 = ce S 2 r 3 := by
  have hb := eb31 hB
  rw [xtask, if_pos (has_lt h (by omega)), show (3 : Int32) = nI 3 from rfl, sw_in (by decide) (by decide)]
  exact cl3 (by omega)
theorem r_task4 {S : HA} {r : Nat} (hB : EB S) (h : r < sz S 2) : xtask S (nI r) 4 = ce S 2 r 4 := by
  have hb := eb31 hB
  rw [xtask, if_pos (has_lt h (by omega)), show (4 : Int32) = nI 4 from rfl, sw_in (by decide) (by decide)]
  exact cl4 (by omega)
theorem r_swap0 {S : HA} {r : Nat} (hB : EB S) (h : r < sz S 3) : xswap S (nI r) 0 = ce S 3 r 0 := by
  have hb := eb31 hB
  rw [xswap, if_pos (has_lt h (by omega)), show (0 : Int32) = nI 0 from rfl, sw_in (by decide) (by decide)]
  exact cl0 (by omega)
theorem r_swap1 {S : HA} {r : Nat} (hB : EB S) (h : r < sz S 3) : xswap S (nI r) 1 = ce S 3 r 1 := by
  have hb := eb31 hB
  rw [xswap, if_pos (has_lt h (by omega)), show (1 : Int32) = nI 1 from rfl, sw_in (by decide) (by decide)]
  exact cl1 (by omega)
theorem r_swap2 {S : HA} {r : Nat} (hB : EB S) (h : r < sz S 3) : xswap S (nI r) 2 = cl S 2 (ce S 3 r 0) 1 := by
  have hb := eb31 hB
  rw [xswap, if_pos (has_lt h (by omega)), show (2 : Int32) = nI 2 from rfl, sw_in (by decide) (by decide)]
  show cl S 2 (cl S 3 (nI r) 0) 1 = _
  rw [cl0 (by omega)]
theorem r_swap3 {S : HA} {r : Nat} (hB : EB S) (h : r < sz S 3) : xswap S (nI r) 3 = cl S 2 (ce S 3 r 1) 1 := by
  have hb := eb31 hB
  rw [xswap, if_pos (has_lt h (by omega)), show (3 : Int32) = nI 3 from rfl, sw_in (by decide) (by decide)]
  show cl S 2 (cl S 3 (nI r) 1) 1 = _
  rw [cl1 (by omega)]
theorem r_count0 {S : HA} {Hs : List HA} {P : PV} : xcount S Hs P 0 = S.2 5 := by
  rw [xcount, show (0 : Int32) = nI 0 from rfl, sw_in (by decide) (by decide)]
  rfl
theorem r_count1 {S : HA} {Hs : List HA} {P : PV} : xcount S Hs P 1 = nI (sz S 0) := by
  rw [xcount, show (1 : Int32) = nI 1 from rfl, sw_in (by decide) (by decide)]
  rfl
theorem r_count2 {S : HA} {Hs : List HA} {P : PV} : xcount S Hs P 2 = nI (sz S 1) := by
  rw [xcount, show (2 : Int32) = nI 2 from rfl, sw_in (by decide) (by decide)]
  rfl
theorem r_count3 {S : HA} {Hs : List HA} {P : PV} : xcount S Hs P 3 = nI (sz S 2) := by
  rw [xcount, show (3 : Int32) = nI 3 from rfl, sw_in (by decide) (by decide)]
  rfl
theorem r_count4 {S : HA} {Hs : List HA} {P : PV} : xcount S Hs P 4 = cntL S (sz S 2) := by
  rw [xcount, show (4 : Int32) = nI 4 from rfl, sw_in (by decide) (by decide)]
  rfl
theorem r_count5 {S : HA} {Hs : List HA} {P : PV} : xcount S Hs P 5 = S.2 7 := by
  rw [xcount, show (5 : Int32) = nI 5 from rfl, sw_in (by decide) (by decide)]
  rfl
theorem r_count6 {S : HA} {Hs : List HA} {P : PV} : xcount S Hs P 6 = S.2 8 := by
  rw [xcount, show (6 : Int32) = nI 6 from rfl, sw_in (by decide) (by decide)]
  rfl
theorem r_count7 {S : HA} {Hs : List HA} {P : PV} : xcount S Hs P 7 = nI (sz S 3) := by
  rw [xcount, show (7 : Int32) = nI 7 from rfl, sw_in (by decide) (by decide)]
  rfl
theorem r_count8 {S : HA} {Hs : List HA} {P : PV} : xcount S Hs P 8 = bitS (S.2 6) := by
  rw [xcount, show (8 : Int32) = nI 8 from rfl, sw_in (by decide) (by decide)]
  rfl
theorem r_count9 {S : HA} {Hs : List HA} {P : PV} : xcount S Hs P 9 = spreadS S 0 (-6) (-6) 0 := by
  rw [xcount, show (9 : Int32) = nI 9 from rfl, sw_in (by decide) (by decide)]
  rfl
theorem r_count10 {S : HA} {Hs : List HA} {P : PV} : xcount S Hs P 10 = spreadS S 1 (-6) (-6) 0 := by
  rw [xcount, show (10 : Int32) = nI 10 from rfl, sw_in (by decide) (by decide)]
  rfl
theorem r_count11 {S : HA} {Hs : List HA} {P : PV} : xcount S Hs P 11 = nI P.1 := by
  rw [xcount, show (11 : Int32) = nI 11 from rfl, sw_in (by decide) (by decide)]
  rfl
theorem r_count12 {S : HA} {Hs : List HA} {P : PV} : xcount S Hs P 12 = nI Hs.length := by
  rw [xcount, show (12 : Int32) = nI 12 from rfl, sw_in (by decide) (by decide)]
  rfl
theorem r_count13 {S : HA} {Hs : List HA} {P : PV} : xcount S Hs P 13 = ce S 4 0 0 := by
  rw [xcount, show (13 : Int32) = nI 13 from rfl, sw_in (by decide) (by decide)]
  exact cl0 (r := 0) (by decide)
theorem r_count14 {S : HA} {Hs : List HA} {P : PV} : xcount S Hs P 14 = ce S 4 0 1 := by
  rw [xcount, show (14 : Int32) = nI 14 from rfl, sw_in (by decide) (by decide)]
  exact cl1 (r := 0) (by decide)
theorem r_count15 {S : HA} {Hs : List HA} {P : PV} : xcount S Hs P 15 = ce S 4 0 2 := by
  rw [xcount, show (15 : Int32) = nI 15 from rfl, sw_in (by decide) (by decide)]
  exact cl2 (r := 0) (by decide)
theorem r_count16 {S : HA} {Hs : List HA} {P : PV} : xcount S Hs P 16 = ce S 4 0 3 := by
  rw [xcount, show (16 : Int32) = nI 16 from rfl, sw_in (by decide) (by decide)]
  exact cl3 (r := 0) (by decide)
