/-! BOTH, one behind the other: the same answer, and both hold the same again -/
theorem x_same {σ σ' : Sg} (h1 : ∀ q : Lo, q.1 < 8 → σ'.1 q = σ.1 q) (h2 : σ'.2 = σ.2) (hX : XOK σ) : xabs σ' = xabs σ ∧ XOK σ' := by
  obtain ⟨x0, x1, x2, x3, x4, x5, x6⟩ := hX
  have hh : ∀ h, habs σ' h = habs σ h ∧ (HOK σ h → HOK σ' h) := fun h => habs_of (fun j => h1 _ (show 0 < 8 by decide)) (fun j => h1 _ (show 1 < 8 by decide)) (h1 _ (show 2 < 8 by decide))
  have e3 := h1 (3, 0, 0) (show 3 < 8 by decide)
  have e5 := h1 (5, 0, 0) (show 5 < 8 by decide)
  have e6 := h1 (6, 0, 0) (show 6 < 8 by decide)
  have en : hN σ' = hN σ := by rw [hN, hN, e3]
  have ep : pN σ' = pN σ := by rw [pN, pN, e5]
  have t := tabs_of (σ := σ) (σ' := σ') (j := 5) (h := 0) (h1 _ (show 0 < 8 by decide)) (h1 _ (show 1 < 8 by decide))
  have hhist : hist σ' = hist σ := by rw [hist, hist, en, h2]; exact List.map_congr_left (fun i _ => (hh _).1)
  refine ⟨by rw [xabs, xabs, (hh 0).1, hhist, pv, pv, ep, e6], (hh 0).2 x0, (hh 1).2 x1, ⟨by rw [en]; exact x2.1, by rw [en, e3]; exact x2.2.1, by rw [h2]; exact x2.2.2.1, by rw [h2]; exact x2.2.2.2.1, fun i hi => by rw [h2]; exact (hh _).2 (x2.2.2.2.2 i hi)⟩, by rw [PadOK, ep, e5]; exact x3, t.2 x4, by rw [(hh 0).1]; exact x5, by rw [hhist]; exact x6⟩
def JI (n : Nat) (σ : Sg) : Prop := XOK σ ∧ Mq_ (habs σ 0) (hist σ) (pv σ) n (σ.1 (9, 0, 0)) σ
theorem j_mid {n : Nat} {σ σ1 : Sg} {X : XS} (h : JI n σ) (hw : XW X σ σ1) : σ1 = sa σ1 (σ.1 (9, 0, 0)) ∧ Mq_ (habs σ 0) (hist σ) (pv σ) n (σ.1 (9, 0, 0)) σ1 := by
  have e9 : σ1.1 (9, 0, 0) = σ.1 (9, 0, 0) := hw.2.2 _ (Or.inr rfl)
  have s := sa_self σ1
  rw [e9] at s
  exact ⟨s.symm, h.2.fr (by rw [hw.2.2 (8, 0, 0) (Or.inl rfl)]) (by rw [hw.2.2 (8, 0, 0) (Or.inl rfl)]) (hw.2.2 _ (Or.inr rfl)) (hw.2.2 _ (Or.inr rfl))⟩
theorem j_end {n : Nat} {σ σ1 σ' : Sg} {r : Int32 × XS} {o : Option AV} (hw : XW r.2 σ σ1) (hp : Mp_ r n σ1 o σ') : o = some (vI r.1) ∧ JI (n + 720) σ' := by
  obtain ⟨ho, τ, f', rfl, hM, hF⟩ := hp
  obtain ⟨hs1, hs2⟩ := x_same (σ := σ1) (σ' := sa τ f') (fun q hq => (FrM.sa.1 q hq).trans (hF.1 q hq)) hF.2 hw.2.1
  have hx : xabs (sa τ f') = r.2 := hs1.trans hw.1
  have h0 : habs (sa τ f') 0 = r.2.1 := congrArg Prod.fst hx
  have h1 : hist (sa τ f') = r.2.2.1 := congrArg (fun z : XS => z.2.1) hx
  have h2 : pv (sa τ f') = r.2.2.2 := congrArg (fun z : XS => z.2.2) hx
  refine ⟨ho, hs2, ?_⟩
  rw [h0, h1, h2, sa_at]
  exact hM.sa
theorem con_cast {l : Launch} {k : Nat} {y : MethodName} {cc : ByteArray} {nL : Nat} {ret : Option FieldType} {as : List AV} {σ σ' : Sg} {P : Option AV → Sg → Prop} (e : σ = σ') (h : Con l k y cc nL ret as σ' P) : Con l k y cc nL ret as σ P := by
  rw [e]; exact h
theorem con_pure {l : Launch} {k : Nat} {y : MethodName} {cc : ByteArray} {nL : Nat} {ret : Option FieldType} {as : List AV} {σ : Sg} {t : Int32} (hX : XOK σ) (h : Con l k y cc nL ret as σ (pureP t σ)) : Con l k y cc nL ret as σ (fun o σ' => o = some (vI (t, ((habs σ 0, (hist σ, pv σ)) : XS)).1) ∧ XW (t, ((habs σ 0, (hist σ, pv σ)) : XS)).2 σ σ') :=
  con_mono h (fun o σ' hp => ⟨hp.1, by rw [hp.2]; exact XW.rf hX⟩)
theorem okI (l : List AV) (h : l.all (fun v => match v with | .inr (.inr (some _)) => false | _ => true) = true) : ∀ v ∈ l, okV v := fun v hv => by
  have := List.all_eq_true.mp h v hv
  rcases v with x | x | _ | q
  · trivial
  · trivial
  · trivial
  · exact Bool.noConfusion this
