/-! THE START: the two objects made, and the abstract state that they stand for -/
theorem nest_on : ∀ w ∈ nestWs, w.onTables = true := by
  intro w hw
  have h2 := nest_isN w hw
  cases w <;> first | (exact Bool.noConfusion h2) | rfl
theorem lw_known {p : Program} {s : State} {m : MethodId} {meth : Method} {c : Code} {b L : Nat} {xs : Nat → Int32} (C0 : lw_At p s m meth c b L xs) : ∃ X : XV, KN X s := by
  obtain ⟨-, -, -, -, -, hts0, -⟩ := C0
  have hts : ∀ w ∈ TG, w.before #[Value.ref b] s = true := fun w hw => hts0 w (TG_in w hw)
  obtain ⟨c0, i0, k0⟩ := u_known hts (iw_all 0 (RX0, TX0, 2) rfl) (show (Cond.instantiable RX0 2).before #[Value.ref b] s = true from hts _ (tg 158 (by decide +kernel) (by decide +kernel)))
  obtain ⟨c1, i1, k1⟩ := u_known hts (iw_all 1 (RX1, TX1, 9) rfl) (show (Cond.instantiable RX1 9).before #[Value.ref b] s = true from hts _ (tg 79 (by decide +kernel) (by decide +kernel)))
  obtain ⟨c2, i2, k2⟩ := u_known hts (iw_all 2 (RX2, TX2, 3) rfl) (show (Cond.instantiable RX2 3).before #[Value.ref b] s = true from hts _ (tg 175 (by decide +kernel) (by decide +kernel)))
  obtain ⟨c3, i3, k3⟩ := u_known hts (iw_all 3 (RX3, TX3, 4) rfl) (show (Cond.instantiable RX3 4).before #[Value.ref b] s = true from hts _ (tg 85 (by decide +kernel) (by decide +kernel)))
  obtain ⟨c4, i4, k4⟩ := u_known hts (iw_all 4 (RX4, TX4, 4) rfl) (show (Cond.instantiable RX4 4).before #[Value.ref b] s = true from hts _ (tg 71 (by decide +kernel) (by decide +kernel)))
  obtain ⟨c5, i5, k5⟩ := u_known hts (iw_all 5 (RX5, TX5, 11) rfl) (show (Cond.instantiable RX5 11).before #[Value.ref b] s = true from hts _ (tg 605 (by decide +kernel) (by decide +kernel)))
  obtain ⟨a0, q0, _, a1, a2, a3⟩ := Cond.arrayClass_spec (hts _ t_ai)
  obtain ⟨b0, r0, _, b1, b2, b3⟩ := Cond.arrayClass_spec (hts _ t_ac)
  have hAO : va_AO RX1 s := va_AO.of (hts0 (Cond.arrayOver (.object RX1)) (List.mem_of_getElem? (i := 164) (by decide +kernel)))
  obtain ⟨comp, d0, dk, e1, _, e3, e4, e5⟩ := Cond.arrayOver_spec hAO
  refine ⟨((fun n => match n with
    | 0 => c0
    | 1 => c1
    | 2 => c2
    | 3 => c3
    | 4 => c4
    | _ => c5, fun n => match n with
    | 0 => i0
    | 1 => i1
    | 2 => i2
    | 3 => i3
    | 4 => i4
    | _ => i5), fun n => match n with
    | 0 => a0
    | 1 => b0
    | _ => d0), ⟨⟨fun ci r h => ?_, fun k q h => ?_⟩, fun w hw => va_Nw.of (nest_on w hw) (hts0 w (nest_in w hw))⟩, hAO⟩
  · match ci, h with
    | 0, h => cases h; exact k0
    | 1, h => cases h; exact k1
    | 2, h => cases h; exact k2
    | 3, h => cases h; exact k3
    | 4, h => cases h; exact k4
    | 5, h => cases h; exact k5
    | k + 6, h => simp [vwCl] at h
  · match k, h with
    | 0, h => cases h; exact ⟨fun N z => ⟨(fun k h => by cases h), q0, a2, _, a3⟩, a1⟩
    | 1, h => cases h; exact ⟨fun N z => ⟨(fun k h => by cases h), r0, b2, _, b3⟩, b1⟩
    | 2, h => cases h; exact ⟨fun N z => ⟨(fun k h => by cases h), dk, e3, _, e4⟩, dk, comp, e3, e4, e1, e5⟩
    | k + 3, h => simp [tysOf] at h
-- the first state
def sg0 : Sg := (fun q => match q with
  | (0, 4, _) => fun k => match k with
    | 3 => 1
    | _ => 0
  | (1, 4, _) => setC
  | (9, 0, _) => modC
  | _ => fun _ => 0, fun i => if i < 6 then i + 2 else 0)
def ad0 (d1 d2 : Nat → Nat) (ads : Nat → Nat → Nat) : Nat → Nat → Nat
  | 0 => d1
  | 1 => d2
  | h + 2 => ads h
def lo0 (ad : Nat → Nat → Nat) (q1 c a p0 p1 p2 p3 h m0 m1 m2 m3 m4 : Nat) : Lo → Nat
  | (0, 5, _) => p2
  | (1, 5, _) => p3
  | (0, j, h) => ad h (1 + 2 * j)
  | (1, j, h) => ad h (2 + 2 * j)
  | (2, _, h) => ad h 0
  | (3, _, _) => c
  | (4, _, _) => a
  | (5, _, _) => p0
  | (6, _, _) => p1
  | (7, _, _) => q1
  | (8, _, _) => h
  | (_, 0, _) => m0
  | (_, 1, _) => m1
  | (_, 2, _) => m2
  | (_, 3, _) => m3
  | _ => m4
def hLo (h : Nat) : List Lo := [(2, 0, h), (0, 0, h), (1, 0, h), (0, 1, h), (1, 1, h), (0, 2, h), (1, 2, h), (0, 3, h), (1, 3, h), (0, 4, h), (1, 4, h)]
def hsLo : Nat → List Lo
  | 0 => []
  | n + 1 => hsLo n ++ hLo (n + 2)
def loOrder : List Lo := (7, 0, 0) :: (hLo 0 ++ (hLo 1 ++ ((3, 0, 0) :: (4, 0, 0) :: hsLo 6 ++ [(5, 0, 0), (6, 0, 0), (0, 5, 0), (1, 5, 0)]))) ++ [(8, 0, 0), (9, 0, 0), (9, 1, 0), (9, 2, 0), (9, 3, 0), (9, 4, 0)]
theorem loOrder_all : ∀ q ∈ allLo, q ∈ loOrder := by decide +kernel
def wholeW (X : XV) (q1 : Nat) (d1 d2 : Nat → Nat) (c a : Nat) (ads : Nat → Nat → Nat) (p0 p1 p2 p3 h m0 m1 m2 m3 m4 : Nat) : va_W := ((q1, .inr (4, [.ref (d1 0), .ref (d2 0), .ref c, .ref p0])) :: rotaT X d1 d2 c a ads p0 p1 p2 p3) ++ modW X h m0 m1 m2 m3 m4
theorem house_map (X : XV) (f : Lo → Nat) (h : Nat) (d : Nat → Nat) (h0 : f (2, 0, h) = d 0) (hj : ∀ j, j < 5 → f (0, j, h) = d (1 + 2 * j) ∧ f (1, j, h) = d (2 + 2 * j)) : houseW X d = (hLo h).map (fun q => (f q, entry (f, X) sg0 q)) := by
  have t0 := hj 0 (by decide)
  have t1 := hj 1 (by decide)
  have t2 := hj 2 (by decide)
  have t3 := hj 3 (by decide)
  have t4 := hj 4 (by decide)
  have e2 : entry (f, X) sg0 (2, 0, h) = .inr (1, [.ref (f (0, 0, h)), .ref (f (0, 1, h)), .ref (f (0, 2, h)), .ref (f (0, 3, h)), .ref (f (0, 4, h)), .int 0, .int 0, .int 0, .int 0]) := rfl
  have a0 : entry (f, X) sg0 (0, 0, h) = .inr (3, [.int 8, .int 7, .ref (f (1, 0, h)), .int 0]) := rfl
  have a1 : entry (f, X) sg0 (0, 1, h) = .inr (3, [.int 6, .int 5, .ref (f (1, 1, h)), .int 0]) := rfl
  have a2 : entry (f, X) sg0 (0, 2, h) = .inr (3, [.int 12, .int 5, .ref (f (1, 2, h)), .int 0]) := rfl
  have a3 : entry (f, X) sg0 (0, 3, h) = .inr (3, [.int 6, .int 2, .ref (f (1, 3, h)), .int 0]) := rfl
  have a4 : entry (f, X) sg0 (0, 4, h) = .inr (3, [.int 1, .int 4, .ref (f (1, 4, h)), .int 1]) := rfl
  have b0 : entry (f, X) sg0 (1, 0, h) = .inl (X.2 0, 56, .inl (fun _ => 0)) := rfl
  have b1 : entry (f, X) sg0 (1, 1, h) = .inl (X.2 0, 30, .inl (fun _ => 0)) := rfl
  have b2 : entry (f, X) sg0 (1, 2, h) = .inl (X.2 0, 60, .inl (fun _ => 0)) := rfl
  have b3 : entry (f, X) sg0 (1, 3, h) = .inl (X.2 0, 12, .inl (fun _ => 0)) := rfl
  have b4 : entry (f, X) sg0 (1, 4, h) = .inl (X.2 0, 4, .inl setC) := rfl
  simp only [hLo, List.map_cons, List.map_nil, e2, a0, a1, a2, a3, a4, b0, b1, b2, b3, b4, h0, t0.1, t0.2, t1.1, t1.2, t2.1, t2.2, t3.1, t3.2, t4.1, t4.2]
  rfl
theorem houses_map (X : XV) (f : Lo → Nat) (ads : Nat → Nat → Nat) : ∀ n, (∀ i, i < n → f (2, 0, i + 2) = ads i 0 ∧ ∀ j, j < 5 → f (0, j, i + 2) = ads i (1 + 2 * j) ∧ f (1, j, i + 2) = ads i (2 + 2 * j)) → housesW X ads n = (hsLo n).map (fun q => (f q, entry (f, X) sg0 q))
  | 0, _ => rfl
  | n + 1, h => by
    show housesW X ads n ++ houseW X (ads n) = (hsLo n ++ hLo (n + 2)).map _
    rw [List.map_append, houses_map X f ads n (fun i hi => h i (by omega)), house_map X f (n + 2) (ads n) (h n (by omega)).1 (h n (by omega)).2]
set_option maxHeartbeats 1000000 in
theorem whole_map (X : XV) (q1 : Nat) (d1 d2 : Nat → Nat) (c a : Nat) (ads : Nat → Nat → Nat) (p0 p1 p2 p3 h m0 m1 m2 m3 m4 : Nat) (f : Lo → Nat) (hf : lo0 (ad0 d1 d2 ads) q1 c a p0 p1 p2 p3 h m0 m1 m2 m3 m4 = f) :
    (wholeW X q1 d1 d2 c a ads p0 p1 p2 p3 h m0 m1 m2 m3 m4).set 24 (a, entry (f, X) sg0 (4, 0, 0)) = loOrder.map (fun q => (f q, entry (f, X) sg0 q)) := by
  have h5 : ∀ (j : Nat), j < 5 → ∀ i : Nat, f (0, j, i) = ad0 d1 d2 ads i (1 + 2 * j) ∧ f (1, j, i) = ad0 d1 d2 ads i (2 + 2 * j) := by
    intro j hj i
    subst hf
    rcases (show j = 0 ∨ j = 1 ∨ j = 2 ∨ j = 3 ∨ j = 4 by omega) with rfl | rfl | rfl | rfl | rfl <;> exact ⟨rfl, rfl⟩
  have h2 : ∀ i : Nat, f (2, 0, i) = ad0 d1 d2 ads i 0 := by
    intro i
    subst hf
    rfl
  have e0 : houseW X d1 = (hLo 0).map (fun q => (f q, entry (f, X) sg0 q)) := house_map X f 0 d1 (h2 0) (fun j hj => h5 j hj 0)
  have e1 : houseW X d2 = (hLo 1).map (fun q => (f q, entry (f, X) sg0 q)) := house_map X f 1 d2 (h2 1) (fun j hj => h5 j hj 1)
  have e2 : housesW X ads 6 = (hsLo 6).map (fun q => (f q, entry (f, X) sg0 q)) := houses_map X f ads 6 (fun i _ => ⟨h2 (i + 2), fun j hj => h5 j hj (i + 2)⟩)
  have e3 : padW X p0 p1 p2 p3 = [(5, 0, 0), (6, 0, 0), (0, 5, 0), (1, 5, 0)].map (fun q => (f q, entry (f, X) sg0 q)) := by
    subst hf
    rfl
  have e4 : modW X h m0 m1 m2 m3 m4 = [(8, 0, 0), (9, 0, 0), (9, 1, 0), (9, 2, 0), (9, 3, 0), (9, 4, 0)].map (fun q => (f q, entry (f, X) sg0 q)) := by
    subst hf
    rfl
  have e5 : ((q1, .inr (4, [.ref (d1 0), .ref (d2 0), .ref c, .ref p0])) : Nat × va_E) = (f (7, 0, 0), entry (f, X) sg0 (7, 0, 0)) := by
    subst hf
    rfl
  have e6 : ((c, .inr (0, [.ref a, .int 0])) : Nat × va_E) = (f (3, 0, 0), entry (f, X) sg0 (3, 0, 0)) := by
    subst hf
    rfl
  have e7 : a = f (4, 0, 0) := by
    subst hf
    rfl
  have e8 : (wholeW X q1 d1 d2 c a ads p0 p1 p2 p3 h m0 m1 m2 m3 m4).set 24 (a, entry (f, X) sg0 (4, 0, 0)) = ((q1, .inr (4, [.ref (d1 0), .ref (d2 0), .ref c, .ref p0])) :: (houseW X d1 ++ (houseW X d2 ++ ((c, .inr (0, [.ref a, .int 0])) :: (a, entry (f, X) sg0 (4, 0, 0)) :: housesW X ads 6 ++ padW X p0 p1 p2 p3)))) ++ modW X h m0 m1 m2 m3 m4 := rfl
  rw [e8, e0, e1, e2, e3, e4, e5, e6, loOrder]
  simp only [List.map_append, List.map_cons, List.cons_append]
  rw [← e7]
theorem whole_at {X : XV} {q1 : Nat} {d1 d2 : Nat → Nat} {c a : Nat} {ads : Nat → Nat → Nat} {p0 p1 p2 p3 h m0 m1 m2 m3 m4 : Nat} {H : Heap} {sz : Nat} (hP : va_P X.1 vwCl (wholeW X q1 d1 d2 c a ads p0 p1 p2 p3 h m0 m1 m2 m3 m4) H) (hD : va_D (fun q : Nat => sz ≤ q) (wholeW X q1 d1 d2 c a ads p0 p1 p2 p3 h m0 m1 m2 m3 m4)) :
    ∃ f : Lo → Nat, f (7, 0, 0) = q1 ∧ f (8, 0, 0) = h ∧ va_P X.1 vwCl (wsOf (f, X) sg0) H ∧ AdOK (f, X) ∧ ∀ q ∈ allLo, sz ≤ f q := by
  obtain ⟨f, hf⟩ : ∃ f, lo0 (ad0 d1 d2 ads) q1 c a p0 p1 p2 p3 h m0 m1 m2 m3 m4 = f := ⟨_, rfl⟩
  have hw := whole_map X q1 d1 d2 c a ads p0 p1 p2 p3 h m0 m1 m2 m3 m4 f hf
  have hg : (wholeW X q1 d1 d2 c a ads p0 p1 p2 p3 h m0 m1 m2 m3 m4)[24]? = some (a, .inl (X.2 2, 6, .inr (.inr (.inr (.inr (histF ads 6)))))) := rfl
  have ha : va_at X.1 vwCl (a, entry (f, X) sg0 (4, 0, 0)) H := by
    have h0 : H[a]? = some (vp_cell (X.2 2) (6, .inr (.inr (.inr (.inr (histF ads 6)))))) := hP 24 _ hg
    show H[a]? = some (vp_cell (X.2 2) (6, .inr (.inr (.inr (.inr (fun i => some (f (2, 0, sg0.2 i))))))))
    rw [h0, vp_cell_q, vp_cell_q, arrV, arrV]
    congr 3
    funext i
    have hi := i.2
    show va_rf (histF ads 6 i.val) = va_rf (some (f (2, 0, sg0.2 i.val)))
    have e1 : histF ads 6 i.val = some (ads i.val 0) := if_pos hi
    have e2 : sg0.2 i.val = i.val + 2 := if_pos hi
    rw [e1, e2, ← hf]
    rfl
  have hP2 := hP.set hD hg ha (fun q _ => rfl)
  have hD2 := hD.set (e := entry (f, X) sg0 (4, 0, 0)) hg
  rw [hw] at hP2 hD2
  have key : ∀ q ∈ allLo, ∃ k : Nat, (loOrder.map (fun q => (f q, entry (f, X) sg0 q)))[k]? = some (f q, entry (f, X) sg0 q) ∧ loOrder[k]? = some q := fun q hq => by
    obtain ⟨k, hk⟩ := List.getElem?_of_mem (loOrder_all q hq)
    exact ⟨k, by rw [List.getElem?_map, hk]; rfl, hk⟩
  refine ⟨f, by rw [← hf]; rfl, by rw [← hf]; rfl, fun k x hk => ?_, fun q hq p hp e => ?_, fun q hq => ?_⟩
  · obtain ⟨q, hq, rfl⟩ := ws_getI hk
    obtain ⟨j, hj, -⟩ := key q (List.mem_of_getElem? hq)
    exact hP2 j _ hj
  · obtain ⟨i, hi, hi'⟩ := key q hq
    obtain ⟨j, hj, hj'⟩ := key p hp
    have := hD2.1 i j _ _ hi hj e
    subst this
    exact Option.some.inj (hi'.symm.trans hj')
  · obtain ⟨i, hi, -⟩ := key q hq
    exact hD2.2 i _ hi
