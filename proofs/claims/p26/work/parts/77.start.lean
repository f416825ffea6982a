/-! THE START: the two objects made, and the abstract state that they stand for -/
theorem nest_on : ∀ w ∈ nestWs, w.onTables = true := by
  intro w hw
  have h2 := nest_isN w hw
  cases w <;> first | (exact Bool.noConfusion h2) | rfl
theorem lw_known {p : Program} {s : State} {m : MethodId} {meth : Method} {c : Code} {b L : Nat} {xs : Nat → Int32} (C0 : lw_At p s m meth c b L xs) : ∃ X : XV, KN X s := by
  obtain ⟨-, -, -, -, -, hts0, -⟩ := C0
  have hts : ∀ w ∈ TG, w.before #[Value.ref b] s = true := fun w hw => hts0 w (TG_in w hw)
  obtain ⟨c0, i0, k0⟩ := u_known hts (iw_all 0 (RX0, TX0, 2) rfl) (show (Cond.instantiable RX0 2).before #[Value.ref b] s = true from hts _ (tg 119 (by decide +kernel) (by decide +kernel)))
  obtain ⟨c1, i1, k1⟩ := u_known hts (iw_all 1 (RX1, TX1, 9) rfl) (show (Cond.instantiable RX1 9).before #[Value.ref b] s = true from hts _ (tg 40 (by decide +kernel) (by decide +kernel)))
  obtain ⟨c2, i2, k2⟩ := u_known hts (iw_all 2 (RX2, TX2, 3) rfl) (show (Cond.instantiable RX2 3).before #[Value.ref b] s = true from hts _ (tg 136 (by decide +kernel) (by decide +kernel)))
  obtain ⟨c3, i3, k3⟩ := u_known hts (iw_all 3 (RX3, TX3, 4) rfl) (show (Cond.instantiable RX3 4).before #[Value.ref b] s = true from hts _ (tg 46 (by decide +kernel) (by decide +kernel)))
  obtain ⟨c4, i4, k4⟩ := u_known hts (iw_all 4 (RX4, TX4, 4) rfl) (show (Cond.instantiable RX4 4).before #[Value.ref b] s = true from hts _ (tg 32 (by decide +kernel) (by decide +kernel)))
  obtain ⟨a0, q0, _, a1, a2, a3⟩ := Cond.arrayClass_spec (hts _ t_ai)
  obtain ⟨b0, r0, _, b1, b2, b3⟩ := Cond.arrayClass_spec (hts _ t_ac)
  have hAO : va_AO RX1 s := va_AO.of (hts0 (Cond.arrayOver (.object RX1)) (List.mem_of_getElem? (i := 125) (by decide +kernel)))
  obtain ⟨comp, d0, dk, e1, _, e3, e4, e5⟩ := Cond.arrayOver_spec hAO
  refine ⟨((fun n => match n with
    | 0 => c0
    | 1 => c1
    | 2 => c2
    | 3 => c3
    | _ => c4, fun n => match n with
    | 0 => i0
    | 1 => i1
    | 2 => i2
    | 3 => i3
    | _ => i4), fun n => match n with
    | 0 => a0
    | 1 => b0
    | _ => d0), ⟨⟨fun ci r h => ?_, fun k q h => ?_⟩, fun w hw => va_Nw.of (nest_on w hw) (hts0 w (nest_in w hw))⟩, hAO⟩
  · match ci, h with
    | 0, h => cases h; exact k0
    | 1, h => cases h; exact k1
    | 2, h => cases h; exact k2
    | 3, h => cases h; exact k3
    | 4, h => cases h; exact k4
    | k + 5, h => simp [vwCl] at h
  · match k, h with
    | 0, h => cases h; exact ⟨fun N z => ⟨(fun k h => by cases h), q0, a2, _, a3⟩, a1⟩
    | 1, h => cases h; exact ⟨fun N z => ⟨(fun k h => by cases h), r0, b2, _, b3⟩, b1⟩
    | 2, h => cases h; exact ⟨fun N z => ⟨(fun k h => by cases h), dk, e3, _, e4⟩, dk, comp, e3, e4, e1, e5⟩
    | k + 3, h => simp [tysOf] at h
-- the first state
def sg0 : Sg := (fun q => match q with
  | (0, 4, _) => fun k => match k with
    | 3 => 1
    | _ => 0
  | (1, 4, _) => setC
  | _ => fun _ => 0, fun i => if i < 6 then i + 2 else 0)
def ad0 (d1 d2 : Nat → Nat) (ads : Nat → Nat → Nat) : Nat → Nat → Nat
  | 0 => d1
  | 1 => d2
  | h + 2 => ads h
def lo0 (ad : Nat → Nat → Nat) (q1 c a p0 p1 p2 p3 h : Nat) : Lo → Nat
  | (0, 5, _) => p2
  | (1, 5, _) => p3
  | (0, j, h) => ad h (1 + 2 * j)
  | (1, j, h) => ad h (2 + 2 * j)
  | (2, _, h) => ad h 0
  | (3, _, _) => c
  | (4, _, _) => a
  | (5, _, _) => p0
  | (6, _, _) => p1
  | (7, _, _) => q1
  | (8, _, _) => h
  | _ => 0
def hLo (h : Nat) : List Lo := [(2, 0, h), (0, 0, h), (1, 0, h), (0, 1, h), (1, 1, h), (0, 2, h), (1, 2, h), (0, 3, h), (1, 3, h), (0, 4, h), (1, 4, h)]
def hsLo : Nat → List Lo
  | 0 => []
  | n + 1 => hsLo n ++ hLo (n + 2)
def loOrder : List Lo := (7, 0, 0) :: (hLo 0 ++ (hLo 1 ++ ((3, 0, 0) :: (4, 0, 0) :: hsLo 6 ++ [(5, 0, 0), (6, 0, 0), (0, 5, 0), (1, 5, 0)])))
theorem loOrder_all : ∀ q ∈ allLo, q ∈ loOrder := by decide +kernel
def wholeW (X : XV) (q1 : Nat) (d1 d2 : Nat → Nat) (c a : Nat) (ads : Nat → Nat → Nat) (p0 p1 p2 p3 : Nat) : va_W := (q1, .inr (4, [.ref (d1 0), .ref (d2 0), .ref c, .ref p0])) :: rotaT X d1 d2 c a ads p0 p1 p2 p3
theorem house_map (X : XV) (f : Lo → Nat) (h : Nat) (d : Nat → Nat) (h0 : f (2, 0, h) = d 0) (hj : ∀ j, j < 5 → f (0, j, h) = d (1 + 2 * j) ∧ f (1, j, h) = d (2 + 2 * j)) : houseW X d = (hLo h).map (fun q => (f q, entry (f, X) sg0 q)) := by
  have t0 := hj 0 (by decide)
  have t1 := hj 1 (by decide)
  have t2 := hj 2 (by decide)
  have t3 := hj 3 (by decide)
  have t4 := hj 4 (by decide)
  have e2 : entry (f, X) sg0 (2, 0, h) = .inr (1, [.ref (f (0, 0, h)), .ref (f (0, 1, h)), .ref (f (0, 2, h)), .ref (f (0, 3, h)), .ref (f (0, 4, h)), .int 0, .int 0, .int 0, .int 0]) := rfl
  have a0 : entry (f, X) sg0 (0, 0, h) = .inr (3, [.int 8, .int 7, .ref (f (1, 0, h)), .int 0]) := rfl
  have a1 : entry (f, X) sg0 (0, 1, h) = .inr (3, [.int 6, .int 5, .ref (f (1, 1, h)), .int 0]) := rfl
  have a2 : entry (f, X) sg0 (0, 2, h) = .inr (3, [.int 12, .int 5, .ref (f (1, 2, h)), .int 0]) := rfl
  have a3 : entry (f, X) sg0 (0, 3, h) = .inr (3, [.int 6, .int 2, .ref (f (1, 3, h)), .int 0]) := rfl
  have a4 : entry (f, X) sg0 (0, 4, h) = .inr (3, [.int 1, .int 4, .ref (f (1, 4, h)), .int 1]) := rfl
  have b0 : entry (f, X) sg0 (1, 0, h) = .inl (X.2 0, 56, .inl (fun _ => 0)) := rfl
  have b1 : entry (f, X) sg0 (1, 1, h) = .inl (X.2 0, 30, .inl (fun _ => 0)) := rfl
  have b2 : entry (f, X) sg0 (1, 2, h) = .inl (X.2 0, 60, .inl (fun _ => 0)) := rfl
  have b3 : entry (f, X) sg0 (1, 3, h) = .inl (X.2 0, 12, .inl (fun _ => 0)) := rfl
  have b4 : entry (f, X) sg0 (1, 4, h) = .inl (X.2 0, 4, .inl setC) := rfl
  simp only [hLo, List.map_cons, List.map_nil, e2, a0, a1, a2, a3, a4, b0, b1, b2, b3, b4, h0, t0.1, t0.2, t1.1, t1.2, t2.1, t2.2, t3.1, t3.2, t4.1, t4.2]
  rfl
theorem houses_map (X : XV) (f : Lo → Nat) (ads : Nat → Nat → Nat) : ∀ n, (∀ i, i < n → f (2, 0, i + 2) = ads i 0 ∧ ∀ j, j < 5 → f (0, j, i + 2) = ads i (1 + 2 * j) ∧ f (1, j, i + 2) = ads i (2 + 2 * j)) → housesW X ads n = (hsLo n).map (fun q => (f q, entry (f, X) sg0 q))
  | 0, _ => rfl
  | n + 1, h => by
    show housesW X ads n ++ houseW X (ads n) = (hsLo n ++ hLo (n + 2)).map _
    rw [List.map_append, houses_map X f ads n (fun i hi => h i (by omega)), house_map X f (n + 2) (ads n) (h n (by omega)).1 (h n (by omega)).2]
set_option maxHeartbeats 1000000 in
theorem whole_map (X : XV) (q1 : Nat) (d1 d2 : Nat → Nat) (c a : Nat) (ads : Nat → Nat → Nat) (p0 p1 p2 p3 h : Nat) (f : Lo → Nat) (hf : lo0 (ad0 d1 d2 ads) q1 c a p0 p1 p2 p3 h = f) :
    (wholeW X q1 d1 d2 c a ads p0 p1 p2 p3).set 24 (a, entry (f, X) sg0 (4, 0, 0)) = loOrder.map (fun q => (f q, entry (f, X) sg0 q)) := by
  have h5 : ∀ (j : Nat), j < 5 → ∀ i : Nat, f (0, j, i) = ad0 d1 d2 ads i (1 + 2 * j) ∧ f (1, j, i) = ad0 d1 d2 ads i (2 + 2 * j) := by
    intro j hj i
    subst hf
    rcases (show j = 0 ∨ j = 1 ∨ j = 2 ∨ j = 3 ∨ j = 4 by omega) with rfl | rfl | rfl | rfl | rfl <;> exact ⟨rfl, rfl⟩
  have h2 : ∀ i : Nat, f (2, 0, i) = ad0 d1 d2 ads i 0 := by
    intro i
    subst hf
    rfl
  have e0 : houseW X d1 = (hLo 0).map (fun q => (f q, entry (f, X) sg0 q)) := house_map X f 0 d1 (h2 0) (fun j hj => h5 j hj 0)
  have e1 : houseW X d2 = (hLo 1).map (fun q => (f q, entry (f, X) sg0 q)) := house_map X f 1 d2 (h2 1) (fun j hj => h5 j hj 1)
  have e2 : housesW X ads 6 = (hsLo 6).map (fun q => (f q, entry (f, X) sg0 q)) := houses_map X f ads 6 (fun i _ => ⟨h2 (i + 2), fun j hj => h5 j hj (i + 2)⟩)
  have e3 : padW X p0 p1 p2 p3 = [(5, 0, 0), (6, 0, 0), (0, 5, 0), (1, 5, 0)].map (fun q => (f q, entry (f, X) sg0 q)) := by
    subst hf
    rfl
  have e5 : ((q1, .inr (4, [.ref (d1 0), .ref (d2 0), .ref c, .ref p0])) : Nat × va_E) = (f (7, 0, 0), entry (f, X) sg0 (7, 0, 0)) := by
    subst hf
    rfl
  have e6 : ((c, .inr (0, [.ref a, .int 0])) : Nat × va_E) = (f (3, 0, 0), entry (f, X) sg0 (3, 0, 0)) := by
    subst hf
    rfl
  have e7 : a = f (4, 0, 0) := by
    subst hf
    rfl
  have e8 : (wholeW X q1 d1 d2 c a ads p0 p1 p2 p3).set 24 (a, entry (f, X) sg0 (4, 0, 0)) = (q1, .inr (4, [.ref (d1 0), .ref (d2 0), .ref c, .ref p0])) :: (houseW X d1 ++ (houseW X d2 ++ ((c, .inr (0, [.ref a, .int 0])) :: (a, entry (f, X) sg0 (4, 0, 0)) :: housesW X ads 6 ++ padW X p0 p1 p2 p3))) := rfl
  rw [e8, e0, e1, e2, e3, e5, e6, loOrder]
  simp only [List.map_append, List.map_cons, List.cons_append]
  rw [← e7]
theorem whole_at {X : XV} {q1 : Nat} {d1 d2 : Nat → Nat} {c a : Nat} {ads : Nat → Nat → Nat} {p0 p1 p2 p3 h : Nat} {H : Heap} {sz : Nat} (hP : va_P X.1 vwCl (wholeW X q1 d1 d2 c a ads p0 p1 p2 p3) H) (hD : va_D (fun q : Nat => sz ≤ q) (wholeW X q1 d1 d2 c a ads p0 p1 p2 p3)) :
    ∃ f : Lo → Nat, f (7, 0, 0) = q1 ∧ f (8, 0, 0) = h ∧ va_P X.1 vwCl (wsOf (f, X) sg0) H ∧ AdOK (f, X) ∧ ∀ q ∈ allLo, sz ≤ f q := by
  obtain ⟨f, hf⟩ : ∃ f, lo0 (ad0 d1 d2 ads) q1 c a p0 p1 p2 p3 h = f := ⟨_, rfl⟩
  have hw := whole_map X q1 d1 d2 c a ads p0 p1 p2 p3 h f hf
  have hg : (wholeW X q1 d1 d2 c a ads p0 p1 p2 p3)[24]? = some (a, .inl (X.2 2, 6, .inr (.inr (.inr (.inr (histF ads 6)))))) := rfl
  have ha : va_at X.1 vwCl (a, entry (f, X) sg0 (4, 0, 0)) H := by
    have h0 : H[a]? = some (vp_cell (X.2 2) (6, .inr (.inr (.inr (.inr (histF ads 6)))))) := hP 24 _ hg
    show H[a]? = some (vp_cell (X.2 2) (6, .inr (.inr (.inr (.inr (fun i => some (f (2, 0, sg0.2 i))))))))
    rw [h0, vp_cell_q, vp_cell_q, arrV, arrV]
    congr 3
    funext i
    have hi := i.2
    show va_rf (histF ads 6 i.val) = va_rf (some (f (2, 0, sg0.2 i.val)))
    have e1 : histF ads 6 i.val = some (ads i.val 0) := if_pos hi
    have e2 : sg0.2 i.val = i.val + 2 := if_pos hi
    rw [e1, e2, ← hf]
    rfl
  have hP2 := hP.set hD hg ha (fun q _ => rfl)
  have hD2 := hD.set (e := entry (f, X) sg0 (4, 0, 0)) hg
  rw [hw] at hP2 hD2
  have key : ∀ q ∈ allLo, ∃ k : Nat, (loOrder.map (fun q => (f q, entry (f, X) sg0 q)))[k]? = some (f q, entry (f, X) sg0 q) ∧ loOrder[k]? = some q := fun q hq => by
    obtain ⟨k, hk⟩ := List.getElem?_of_mem (loOrder_all q hq)
    exact ⟨k, by rw [List.getElem?_map, hk]; rfl, hk⟩
  refine ⟨f, by rw [← hf]; rfl, by rw [← hf]; rfl, fun k x hk => ?_, fun q hq p hp e => ?_, fun q hq => ?_⟩
  · obtain ⟨q, hq, rfl⟩ := ws_getI hk
    obtain ⟨j, hj, -⟩ := key q (List.mem_of_getElem? hq)
    exact hP2 j _ hj
  · obtain ⟨i, hi, hi'⟩ := key q hq
    obtain ⟨j, hj, hj'⟩ := key p hp
    have := hD2.1 i j _ _ hi hj e
    subst this
    exact Option.some.inj (hi'.symm.trans hj')
  · obtain ⟨i, hi, -⟩ := key q hq
    exact hD2.2 i _ hi
theorem s_tn {j : Nat} (hj : j ≠ 4) (h : Nat) : sg0.1 (0, j, h) 3 = 0 := by
  match j, hj with
  | 0, _ => rfl
  | 1, _ => rfl
  | 2, _ => rfl
  | 3, _ => rfl
  | 4, z => exact absurd rfl z
  | n + 5, _ => rfl
theorem s_n {j : Nat} (hj : j ≠ 4) (h : Nat) : tN sg0 j h = 0 := by rw [tN, s_tn hj h]; rfl
theorem s_n4 (h : Nat) : tN sg0 4 h = 1 := rfl
theorem s_T {j : Nat} (hj : j < 6) (h : Nat) : TOK sg0 j h := by
  by_cases h4 : j = 4
  · subst h4
    exact ⟨by rw [s_n4]; exact Nat.le_of_ble_eq_true rfl, rfl⟩
  · exact ⟨by rw [s_n h4]; exact Nat.zero_le _, by rw [s_n h4, s_tn h4]; rfl⟩
theorem s_H {h : Nat} (hh : h < 8) : HOK sg0 h := ⟨hh, fun j hj => s_T (by omega) h⟩
theorem s_hN : hN sg0 = 0 := rfl
theorem s_hist : hist sg0 = [] := rfl
theorem s_pN : pN sg0 = 0 := rfl
theorem s_sz {j : Nat} (hj : j < 4) : sz (habs sg0 0) j = 0 := by
  rcases (show j = 0 ∨ j = 1 ∨ j = 2 ∨ j = 3 by omega) with rfl | rfl | rfl | rfl <;> rfl
theorem s_HI : HInv (habs sg0 0) := ⟨Or.inl rfl, fun _ => s_sz (by decide)⟩
theorem s_X : XOK sg0 := by
  refine ⟨s_H (by decide), s_H (by decide), ⟨by rw [s_hN]; exact Nat.zero_le _, rfl, fun i hi => ?_, fun i j hi hj e => ?_, fun i hi => s_H ?_⟩, ⟨by rw [s_pN]; exact Nat.zero_le _, rfl⟩, s_T (by decide) 0, s_HI, fun S hS => by rw [s_hist] at hS; cases hS⟩
  · rw [show sg0.2 i = i + 2 from if_pos hi]; omega
  · rw [show sg0.2 i = i + 2 from if_pos hi, show sg0.2 j = j + 2 from if_pos hj] at e; omega
  · rw [show sg0.2 i = i + 2 from if_pos hi]; omega
theorem s_ce {j r c : Nat} (hj : j < 4) : ce (habs sg0 0) j r c = 0 := by
  have h : ((habs sg0 0).1 j) = tabs sg0 j 0 := if_pos (by omega)
  rw [ce, h]
  show (if r < tN sg0 j 0 ∧ c < wid j then _ else 0) = 0
  rw [if_neg (by rw [s_n (by omega)]; omega)]
theorem s_c4 {j : Nat} (hj : j < 4) : ce (habs sg0 0) 4 0 j = setC j := by
  rcases (show j = 0 ∨ j = 1 ∨ j = 2 ∨ j = 3 by omega) with rfl | rfl | rfl | rfl <;> rfl
theorem s_B : EB (habs sg0 0) := by
  refine ⟨?_, ?_, ?_, ?_⟩ <;> rw [s_sz (by decide)] <;> exact Nat.zero_le _
theorem s_V : V (habs sg0 0) 0 := by
  refine ⟨⟨s_HI, s_B, rfl, 0, by omega, rfl⟩, fun r hr => ?_, ⟨fun a ha => ?_, 3, by omega, by omega, rfl⟩, fun t ht => ?_, ⟨fun t u _ hu => ?_, fun t ht => ?_⟩, fun s c hs => ?_, fun j r c hj hr => s_ce hj⟩
  · rw [s_sz (by decide)] at hr; omega
  · rw [s_sz (by decide)] at ha; omega
  · rw [s_sz (by decide)] at ht; omega
  · rw [s_sz (by decide)] at hu; omega
  · rw [s_sz (by decide)] at ht; omega
  · rw [s_sz (by decide)] at hs; omega
theorem s_P : POK sg0 := fun i => by
  show (if i < 6 then i + 2 else 0) < 8
  split <;> omega
section BEGIN
variable {p : Program} {e : Env} {s : State} {m : MethodId} {below : List Frame} {meth : Method} {c : Code} {l : Launch} {b L : Nat} {xs : Nat → Int32} {X : XV} {cells slots pc : Nat} {H : Heap} {locs : List Jvm.Loc} {ls : Array Slot} {lv : List (Nat × Value)}
theorem ls_callI (C0 : lw_At p s m meth c b L xs) (hK : KN X s) {idx k' mc' ms' maxL : Nat} {y : MethodName} {bytes : ByteArray} {post' : Option Int32 → va_W → Prop} (h : Nat) (rest : List Value) (wr wc : va_W)
    (hl0 : ILink RL idx y) (hm : MI y bytes maxL none 0) (hy : y.name = "<init>") (hC : NCon l X k' mc' ms' y bytes maxL none [.ref h] wc post') (hR : k' + 1 ≤ room_1.frames ∧ 8 + (maxL + 11) + 32 * k' ≤ room_1.locals) (hcat : (rest.map fun v => v.category).sum ≤ 8) (hcs : cells + mc' ≤ room_1.cells ∧ slots + ms' ≤ room_1.slots) (hd : decode code pc = .ok (.invokespecial idx, 3))
    (hP : va_P X.1 vwCl (wr ++ wc) H) (hD : va_D (fun q : Nat => s.heap.size ≤ q) (wr ++ wc)) (hS : va_S (fun q : Nat => s.heap.size ≤ q) s.heap H locs) (hlv : lv_has ls 6 lv)
    (kk : ∀ (u : va_W) (H1 : Heap) (locs1 : List Jvm.Loc), post' none u → va_P X.1 vwCl (wr ++ u) H1 → va_D (fun q : Nat => s.heap.size ≤ q) (wr ++ u) → va_S (fun q : Nat => s.heap.size ≤ q) s.heap H1 locs1 → W p l e room_1 s m #[Value.ref b] below meth c H1 locs1 (cells + mc') (slots + ms') (lw_Z below #[Value.ref b] s) (F0 m (pc + 3) ls rest)) :
    W p l e room_1 s m #[Value.ref b] below meth c H locs cells slots (lw_Z below #[Value.ref b] s) (F0 m pc ls (.ref h :: rest)) := by
  obtain ⟨hx, hb, hr, hml, hown, hts0, hX, hbl, hlk, hgv⟩ := C0
  have hts : ∀ w ∈ TG, w.before #[Value.ref b] s = true := fun w hw => hts0 w (TG_in w hw)
  have hcw := cwI (own := RL) (index := idx) (y := y) (R := room_1) (args := #[Value.ref b]) (s := s) (bytes := bytes) (maxL := maxL) (rm := RN k' mc' ms') (mc := mc') (ms := ms') (ws := .code y bytes maxL none :: TG) (ws' := TG) (Ts := TG) 0 hts (good_TG (fun w hw => by
      rcases List.mem_cons.mp hw with h | h
      · rw [h]; exact hm.1
      · exact h)) rfl rfl rfl (hts _ hl0.2.2) (hts _ hl0.1) (hts _ hl0.2.1) hy hm.2 hR
  have hF := n_free hD (H := H) (fun q h => Nat.le_trans hS.1 h)
  refine va_callv (va_runI (b := h) (As := []) (rest := rest) ⟨hx, hb, hml, hown, hts⟩ (hC H.size) hcw ⟨n_blind, n_pre (nw_r hP) (nd_r hD) hK⟩ rfl rfl hlv.1 rfl (lv_room hcat) hd hcs) hS (fun q _ h => hF q h) hF (fun u t H1 locs1 ht hvm hw hB hz hk hS1 => ?_)
  obtain ⟨hP1, hD1⟩ := n_join hP hD hk hF (by rw [← ht]; exact hB.1) hB.2
  exact kk u H1 locs1 hw hP1 hD1 hS1
end BEGIN
theorem s_xabs : xabs sg0 = (habs sg0 0, (([] : List HA), P0)) := by
  refine Prod.ext rfl (Prod.ext rfl (Prod.ext rfl ?_))
  funext i
  show (if i < pN sg0 then sg0.1 (6, 0, 0) i else 0) = 0
  exact if_neg (show ¬ i < pN sg0 by rw [s_pN]; omega)
set_option maxHeartbeats 1000000 in
/-- from the entry, for every script of at most 260 ints, the law comes to its end with true -/
theorem whole_start {p : Program} {e : Env} {s : State} {m : MethodId} {below : List Frame} {meth : Method} {c : Code} (l : Launch) (hflags : l.flags = flags0) {b L : Nat} {xs : Nat → Int32} (hL : L ≤ 260) (C0 : lw_At p s m meth c b L xs) : W p l e room_1 s m #[Value.ref b] below meth c s.heap [] 0 0 (lw_Z below #[Value.ref b] s) (entryFrame m ([Value.ref b] : List Value).toArray 6) := by
  obtain ⟨X, hK⟩ := lw_known C0
  obtain ⟨hx, hb, hr, hml, hown, hts0, hX, hbl, hlk, hgv⟩ := id C0
  have hts : ∀ w ∈ TG, w.before #[Value.ref b] s = true := fun w hw => hts0 w (TG_in w hw)
  have hl := lv_entry [Value.ref b] (n := 6) (Nat.le_of_ble_eq_true rfl)
  rw [lg_entry_eq]
  generalize (lg_sl [Value.ref b] ++ List.replicate (6 - (lg_sl [Value.ref b]).length) Slot.unset).toArray = ls at hl ⊢
  have hP0 : va_P X.1 vwCl [] s.heap := fun k q h => by simp at h
  have hD0 : va_D (fun q : Nat => s.heap.size ≤ q) [] := ⟨fun i j x y h => by simp at h, fun k q h => by simp at h⟩
  refine va_new (ci := 4) (C := RX4) (T := TX4) (N := 4) (index := 9) (Ts := TG) hx hb hts (iw_all 4 (RX4, TX4, 4) rfl) (tyAll 4) (ty_all 4 (RX4, TX4, 4) rfl) hown (hts _ (tg 31 (by decide +kernel) (by decide +kernel))) (hts _ (tg 32 (by decide +kernel) (by decide +kernel))) (hts _ (tg 24 (by decide +kernel) (by decide +kernel))) hK.1.1 hP0 hD0 va_S.rf (fun q h => h) rfl (fs := [.null, .null, .null, .null]) fs_4 (Nat.le_of_ble_eq_true rfl) (Nat.le_of_ble_eq_true rfl) (by decide +kernel) (fun q1 H1 hP1 hD1 hS1 => ?_)
  refine lv_dup hx hb (show decode code 3 = .ok (.dup, 1) by decide +kernel) rfl ?_
  refine ls_callI C0 hK q1 [.ref q1] [] [(q1, .inr (4, [.null, .null, .null, .null]))] il_RL_11 mi_X4_init rfl (n_rota l) ⟨Nat.le_of_ble_eq_true rfl, Nat.le_of_ble_eq_true rfl⟩ (Nat.le_of_ble_eq_true rfl) ⟨Nat.le_of_ble_eq_true rfl, Nat.le_of_ble_eq_true rfl⟩ (show decode code 4 = .ok (.invokespecial 11, 3) by decide +kernel) hP1 hD1 hS1 hl (fun u H2 locs2 hu hP2 hD2 hS2 => ?_)
  obtain ⟨d1, d2, c0, a0, ads, p0, p1, p2, p3, rfl⟩ := hu
  refine lv_astore_n hx hb (lv' := [(1, .ref q1), (0, .ref b)]) (show decode code 7 = .ok (.astore_n 1, 1) by decide +kernel) rfl hl (by decide) rfl (fun ls hl => ?_)
  obtain ⟨f, rfl, hf8, hP, hE, hEA⟩ := whole_at (h := b) hP2 hD2
  subst hf8
  have hW0 : wsOf (f, X) sg0 ++ wsL (f, X) [] (fun _ _ => 0) = wsOf (f, X) sg0 := List.append_nil _
  have G0 := law_walk l (b := f (8, 0, 0)) (L := L) (xs := xs) (B := fun _ _ => 0) (cs0 := 95) (sl0 := 2771) hL s_V (s_sz (j := 0) (by decide)) (s_sz (j := 1) (by decide)) (s_sz (j := 2) (by decide)) (s_sz (j := 3) (by decide)) rfl rfl (by decide) (by decide)
  exact G0 (f, X) sg0 p e s m #[Value.ref (f (8, 0, 0))] below meth c H2 locs2 ls ⟨hx, hb, hml, hown, hts, hr, hlk, hK.1, hE⟩ ⟨rfl, rfl, hX, hbl⟩ ⟨hEA, fun a h => h⟩ s_P s_X s_xabs rfl (lv_sub hl [1, 0] rfl)
    (by rw [hW0]; exact hP) (by rw [hW0]; exact ⟨(ws_D (sz := 0) hE).1, fun k q hk => by obtain ⟨r, hr, rfl⟩ := ws_getI hk; exact hEA r (List.mem_of_getElem? hr)⟩) hS2
