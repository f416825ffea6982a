theorem shp_kind (p : Lo) (x : Nat × Nat) (h : shp p = .inr x) : x.1 < 3 := by
  unfold shp at h
  split at h <;> first | (cases h; done) | (have e := Sum.inr.inj h; subst e; simp)
section ROWS2
variable {l : Launch} {R : Room} {own : String} {cc : ByteArray} {nL : Nat} {ret : Option FieldType} {post : Option AV → Sg → Prop} {pc : Nat} {loc : List (Option AV)} {st : List AV} {σ : Sg}
theorem g_if_eq {x : Int32} {off : Int} {tgt : Nat} (hd : decode cc pc = .ok (.ifCond .eq off, 3)) (ht : (pc : Int) + off = (tgt : Int)) (kt : x = 0 → G l R own cc nL ret post tgt loc st σ) (kf : ¬ x = 0 → G l R own cc nL ret post (pc + 3) loc st σ) : G l R own cc nL ret post pc loc (vI x :: st) σ := by
  intro E p e s m args below meth c H locs ls C hσ hst hloc hlen hlv hP hS
  exact lv_if_eq C.1 C.2.1 hd ht (fun q => kt q E p e s m args below meth c H locs ls C hσ (ok_tl hst) hloc hlen hlv hP hS) (fun q => kf q E p e s m args below meth c H locs ls C hσ (ok_tl hst) hloc hlen hlv hP hS)
theorem g_icmp_eq {x y : Int32} {off : Int} {tgt : Nat} (hd : decode cc pc = .ok (.if_icmp .eq off, 3)) (ht : (pc : Int) + off = (tgt : Int)) (kt : x = y → G l R own cc nL ret post tgt loc st σ) (kf : ¬ x = y → G l R own cc nL ret post (pc + 3) loc st σ) : G l R own cc nL ret post pc loc (vI y :: vI x :: st) σ := by
  intro E p e s m args below meth c H locs ls C hσ hst hloc hlen hlv hP hS
  exact lv_icmp_eq C.1 C.2.1 hd ht (fun q => kt q E p e s m args below meth c H locs ls C hσ (ok_tl (ok_tl hst)) hloc hlen hlv hP hS) (fun q => kf q E p e s m args below meth c H locs ls C hσ (ok_tl (ok_tl hst)) hloc hlen hlv hP hS)
theorem g_if_ne {x : Int32} {off : Int} {tgt : Nat} (hd : decode cc pc = .ok (.ifCond .ne off, 3)) (ht : (pc : Int) + off = (tgt : Int)) (kt : ¬ x = 0 → G l R own cc nL ret post tgt loc st σ) (kf : x = 0 → G l R own cc nL ret post (pc + 3) loc st σ) : G l R own cc nL ret post pc loc (vI x :: st) σ := by
  intro E p e s m args below meth c H locs ls C hσ hst hloc hlen hlv hP hS
  exact lv_if_ne C.1 C.2.1 hd ht (fun q => kt q E p e s m args below meth c H locs ls C hσ (ok_tl hst) hloc hlen hlv hP hS) (fun q => kf q E p e s m args below meth c H locs ls C hσ (ok_tl hst) hloc hlen hlv hP hS)
theorem g_icmp_ne {x y : Int32} {off : Int} {tgt : Nat} (hd : decode cc pc = .ok (.if_icmp .ne off, 3)) (ht : (pc : Int) + off = (tgt : Int)) (kt : ¬ x = y → G l R own cc nL ret post tgt loc st σ) (kf : x = y → G l R own cc nL ret post (pc + 3) loc st σ) : G l R own cc nL ret post pc loc (vI y :: vI x :: st) σ := by
  intro E p e s m args below meth c H locs ls C hσ hst hloc hlen hlv hP hS
  exact lv_icmp_ne C.1 C.2.1 hd ht (fun q => kt q E p e s m args below meth c H locs ls C hσ (ok_tl (ok_tl hst)) hloc hlen hlv hP hS) (fun q => kf q E p e s m args below meth c H locs ls C hσ (ok_tl (ok_tl hst)) hloc hlen hlv hP hS)
theorem g_if_lt {x : Int32} {off : Int} {tgt : Nat} (hd : decode cc pc = .ok (.ifCond .lt off, 3)) (ht : (pc : Int) + off = (tgt : Int)) (kt : x < 0 → G l R own cc nL ret post tgt loc st σ) (kf : ¬ x < 0 → G l R own cc nL ret post (pc + 3) loc st σ) : G l R own cc nL ret post pc loc (vI x :: st) σ := by
  intro E p e s m args below meth c H locs ls C hσ hst hloc hlen hlv hP hS
  exact lv_if_lt C.1 C.2.1 hd ht (fun q => kt q E p e s m args below meth c H locs ls C hσ (ok_tl hst) hloc hlen hlv hP hS) (fun q => kf q E p e s m args below meth c H locs ls C hσ (ok_tl hst) hloc hlen hlv hP hS)
theorem g_icmp_lt {x y : Int32} {off : Int} {tgt : Nat} (hd : decode cc pc = .ok (.if_icmp .lt off, 3)) (ht : (pc : Int) + off = (tgt : Int)) (kt : x < y → G l R own cc nL ret post tgt loc st σ) (kf : ¬ x < y → G l R own cc nL ret post (pc + 3) loc st σ) : G l R own cc nL ret post pc loc (vI y :: vI x :: st) σ := by
  intro E p e s m args below meth c H locs ls C hσ hst hloc hlen hlv hP hS
  exact lv_icmp_lt C.1 C.2.1 hd ht (fun q => kt q E p e s m args below meth c H locs ls C hσ (ok_tl (ok_tl hst)) hloc hlen hlv hP hS) (fun q => kf q E p e s m args below meth c H locs ls C hσ (ok_tl (ok_tl hst)) hloc hlen hlv hP hS)
theorem g_if_ge {x : Int32} {off : Int} {tgt : Nat} (hd : decode cc pc = .ok (.ifCond .ge off, 3)) (ht : (pc : Int) + off = (tgt : Int)) (kt : 0 ≤ x → G l R own cc nL ret post tgt loc st σ) (kf : ¬ 0 ≤ x → G l R own cc nL ret post (pc + 3) loc st σ) : G l R own cc nL ret post pc loc (vI x :: st) σ := by
  intro E p e s m args below meth c H locs ls C hσ hst hloc hlen hlv hP hS
  exact lv_if_ge C.1 C.2.1 hd ht (fun q => kt q E p e s m args below meth c H locs ls C hσ (ok_tl hst) hloc hlen hlv hP hS) (fun q => kf q E p e s m args below meth c H locs ls C hσ (ok_tl hst) hloc hlen hlv hP hS)
theorem g_icmp_ge {x y : Int32} {off : Int} {tgt : Nat} (hd : decode cc pc = .ok (.if_icmp .ge off, 3)) (ht : (pc : Int) + off = (tgt : Int)) (kt : y ≤ x → G l R own cc nL ret post tgt loc st σ) (kf : ¬ y ≤ x → G l R own cc nL ret post (pc + 3) loc st σ) : G l R own cc nL ret post pc loc (vI y :: vI x :: st) σ := by
  intro E p e s m args below meth c H locs ls C hσ hst hloc hlen hlv hP hS
  exact lv_icmp_ge C.1 C.2.1 hd ht (fun q => kt q E p e s m args below meth c H locs ls C hσ (ok_tl (ok_tl hst)) hloc hlen hlv hP hS) (fun q => kf q E p e s m args below meth c H locs ls C hσ (ok_tl (ok_tl hst)) hloc hlen hlv hP hS)
theorem g_if_gt {x : Int32} {off : Int} {tgt : Nat} (hd : decode cc pc = .ok (.ifCond .gt off, 3)) (ht : (pc : Int) + off = (tgt : Int)) (kt : 0 < x → G l R own cc nL ret post tgt loc st σ) (kf : ¬ 0 < x → G l R own cc nL ret post (pc + 3) loc st σ) : G l R own cc nL ret post pc loc (vI x :: st) σ := by
  intro E p e s m args below meth c H locs ls C hσ hst hloc hlen hlv hP hS
  exact lv_if_gt C.1 C.2.1 hd ht (fun q => kt q E p e s m args below meth c H locs ls C hσ (ok_tl hst) hloc hlen hlv hP hS) (fun q => kf q E p e s m args below meth c H locs ls C hσ (ok_tl hst) hloc hlen hlv hP hS)
theorem g_icmp_gt {x y : Int32} {off : Int} {tgt : Nat} (hd : decode cc pc = .ok (.if_icmp .gt off, 3)) (ht : (pc : Int) + off = (tgt : Int)) (kt : y < x → G l R own cc nL ret post tgt loc st σ) (kf : ¬ y < x → G l R own cc nL ret post (pc + 3) loc st σ) : G l R own cc nL ret post pc loc (vI y :: vI x :: st) σ := by
  intro E p e s m args below meth c H locs ls C hσ hst hloc hlen hlv hP hS
  exact lv_icmp_gt C.1 C.2.1 hd ht (fun q => kt q E p e s m args below meth c H locs ls C hσ (ok_tl (ok_tl hst)) hloc hlen hlv hP hS) (fun q => kf q E p e s m args below meth c H locs ls C hσ (ok_tl (ok_tl hst)) hloc hlen hlv hP hS)
theorem g_if_le {x : Int32} {off : Int} {tgt : Nat} (hd : decode cc pc = .ok (.ifCond .le off, 3)) (ht : (pc : Int) + off = (tgt : Int)) (kt : x ≤ 0 → G l R own cc nL ret post tgt loc st σ) (kf : ¬ x ≤ 0 → G l R own cc nL ret post (pc + 3) loc st σ) : G l R own cc nL ret post pc loc (vI x :: st) σ := by
  intro E p e s m args below meth c H locs ls C hσ hst hloc hlen hlv hP hS
  exact lv_if_le C.1 C.2.1 hd ht (fun q => kt q E p e s m args below meth c H locs ls C hσ (ok_tl hst) hloc hlen hlv hP hS) (fun q => kf q E p e s m args below meth c H locs ls C hσ (ok_tl hst) hloc hlen hlv hP hS)
theorem g_icmp_le {x y : Int32} {off : Int} {tgt : Nat} (hd : decode cc pc = .ok (.if_icmp .le off, 3)) (ht : (pc : Int) + off = (tgt : Int)) (kt : x ≤ y → G l R own cc nL ret post tgt loc st σ) (kf : ¬ x ≤ y → G l R own cc nL ret post (pc + 3) loc st σ) : G l R own cc nL ret post pc loc (vI y :: vI x :: st) σ := by
  intro E p e s m args below meth c H locs ls C hσ hst hloc hlen hlv hP hS
  exact lv_icmp_le C.1 C.2.1 hd ht (fun q => kt q E p e s m args below meth c H locs ls C hσ (ok_tl (ok_tl hst)) hloc hlen hlv hP hS) (fun q => kf q E p e s m args below meth c H locs ls C hσ (ok_tl (ok_tl hst)) hloc hlen hlv hP hS)
theorem g_goto {off : Int} {tgt : Nat} (hd : decode cc pc = .ok (.goto off, 3)) (ht : (pc : Int) + off = (tgt : Int)) (k : G l R own cc nL ret post tgt loc st σ) : G l R own cc nL ret post pc loc st σ := by
  intro E p e s m args below meth c H locs ls C hσ hst hloc hlen hlv hP hS
  exact lv_goto C.1 C.2.1 hd ht (k E p e s m args below meth c H locs ls C hσ hst hloc hlen hlv hP hS)
theorem g_ifnull {q : Lo} {off : Int} (hd : decode cc pc = .ok (.ifnull off, 3)) (k : G l R own cc nL ret post (pc + 3) loc st σ) : G l R own cc nL ret post pc loc (vR q :: st) σ := by
  intro E p e s m args below meth c H locs ls C hσ hst hloc hlen hlv hP hS
  exact lv_ifnull C.1 C.2.1 hd (k E p e s m args below meth c H locs ls C hσ (ok_tl hst) hloc hlen hlv hP hS)
theorem g_ifnullN {off : Int} {tgt : Nat} (hd : decode cc pc = .ok (.ifnull off, 3)) (ht : (pc : Int) + off = (tgt : Int)) (k : G l R own cc nL ret post tgt loc st σ) : G l R own cc nL ret post pc loc (vN :: st) σ := by
  intro E p e s m args below meth c H locs ls C hσ hst hloc hlen hlv hP hS
  exact lv_ifnullN C.1 C.2.1 hd ht (k E p e s m args below meth c H locs ls C hσ (ok_tl hst) hloc hlen hlv hP hS)
theorem g_tabO {dflt lo hi : Int} {offs : Array Int} {len : Nat} {x : Int32} {tgt : Nat} (hd : decode cc pc = .ok (.tableswitch dflt lo hi offs, len)) (h : x.toInt < lo ∨ hi < x.toInt) (ht : (pc : Int) + dflt = (tgt : Int)) (k : G l R own cc nL ret post tgt loc st σ) : G l R own cc nL ret post pc loc (vI x :: st) σ := by
  intro E p e s m args below meth c H locs ls C hσ hst hloc hlen hlv hP hS
  exact lv_tableOut C.1 C.2.1 hd h ht (k E p e s m args below meth c H locs ls C hσ (ok_tl hst) hloc hlen hlv hP hS)
theorem g_tabI {dflt lo hi : Int} {offs : Array Int} {len : Nat} {x : Int32} {off : Int} {tgt : Nat} (hd : decode cc pc = .ok (.tableswitch dflt lo hi offs, len)) (h1 : ¬ x.toInt < lo) (h2 : ¬ hi < x.toInt) (ho : offs[(x.toInt - lo).toNat]? = some off) (ht : (pc : Int) + off = (tgt : Int)) (k : G l R own cc nL ret post tgt loc st σ) : G l R own cc nL ret post pc loc (vI x :: st) σ := by
  intro E p e s m args below meth c H locs ls C hσ hst hloc hlen hlv hP hS
  exact lv_tableIn C.1 C.2.1 hd h1 h2 ho ht (k E p e s m args below meth c H locs ls C hσ (ok_tl hst) hloc hlen hlv hP hS)
theorem g_look {dflt : Int} {ps : Array (Int × Int)} {len : Nat} {x : Int32} {off : Int} {tgt : Nat} (hd : decode cc pc = .ok (.lookupswitch dflt ps, len)) (hp : (ps.toList.zip (ps.toList.drop 1)).all (fun (a, next) => a.1 < next.1) = true) (ho : Op.lookupswitch.offset ps.toList dflt x.toInt = off) (ht : (pc : Int) + off = (tgt : Int)) (k : G l R own cc nL ret post tgt loc st σ) : G l R own cc nL ret post pc loc (vI x :: st) σ := by
  intro E p e s m args below meth c H locs ls C hσ hst hloc hlen hlv hP hS
  exact lv_lookup C.1 C.2.1 hd hp ho ht (k E p e s m args below meth c H locs ls C hσ (ok_tl hst) hloc hlen hlv hP hS)
theorem g_ldc {index : Nat} {v : Int32} (hw : Cond.constant own index v ∈ TG) (hd : decode cc pc = .ok (.ldc index, 2)) (k : G l R own cc nL ret post (pc + 2) loc (vI v :: st) σ) : G l R own cc nL ret post pc loc st σ := by
  intro E p e s m args below meth c H locs ls C hσ hst hloc hlen hlv hP hS
  exact lv_ldc C.1 C.2.1 C.2.2.2.1 (C.2.2.2.2.1 _ hw) hd (k E p e s m args below meth c H locs ls C hσ (ok_cn (a := vI v) trivial hst) hloc hlen hlv hP hS)
theorem g_ldc2 {index : Nat} {v : Int64} (hw : Cond.constantLong own index v ∈ TG) (hd : decode cc pc = .ok (.ldc2_w index, 3)) (k : G l R own cc nL ret post (pc + 3) loc (vL v :: st) σ) : G l R own cc nL ret post pc loc st σ := by
  intro E p e s m args below meth c H locs ls C hσ hst hloc hlen hlv hP hS
  exact lv_ldc2 C.1 C.2.1 C.2.2.2.1 (C.2.2.2.2.1 _ hw) hd (k E p e s m args below meth c H locs ls C hσ (ok_cn (a := vL v) trivial hst) hloc hlen hlv hP hS)
-- fields
theorem iw_all (ci : Nat) (r : vw_C) (h : vwCl[ci]? = some r) : ∀ w ∈ u_ws r.1 r.2.1 r.2.2, w ∈ TG := by
  match ci, h with
  | 0, h => cases h; exact iw0
  | 1, h => cases h; exact iw1
  | 2, h => cases h; exact iw2
  | 3, h => cases h; exact iw3
  | 4, h => cases h; exact iw4
  | k + 5, h => simp [vwCl] at h
theorem nm_all (ci : Nat) (r : vw_C) (h : vwCl[ci]? = some r) : ∀ a, a < r.2.2 → ∀ b, b < r.2.2 → a ≠ b → (r.2.1 a).2.1 ≠ (r.2.1 b).2.1 := by
  match ci, h with
  | 0, h => cases h; exact nmX0
  | 1, h => cases h; exact nmX1
  | 2, h => cases h; exact nmX2
  | 3, h => cases h; exact nmX3
  | 4, h => cases h; exact nmX4
  | k + 5, h => simp [vwCl] at h
def tyAll : Nat → Nat → FieldType
  | 0 => tyX0
  | 1 => tyX1
  | 2 => tyX2
  | 3 => tyX3
  | 4 => tyX4
  | _ => fun _ => .int
theorem ty_all (ci : Nat) (r : vw_C) (h : vwCl[ci]? = some r) : ∀ k, k < r.2.2 → parseFieldDescriptor (r.2.1 k).2.2.1 = some (tyAll ci k) := by
  match ci, h with
  | 0, h => cases h; exact tyX0_ok
  | 1, h => cases h; exact tyX1_ok
  | 2, h => cases h; exact tyX2_ok
  | 3, h => cases h; exact tyX3_ok
  | 4, h => cases h; exact tyX4_ok
  | k + 5, h => simp [vwCl] at h
theorem dsc_same (ci : Nat) (r : vw_C) (h : vwCl[ci]? = some r) (k : Nat) (hk : k < r.2.2) : (r.2.1 k).1 = r.1 := by
  match ci, h with
  | 0, h => cases h; exact (by decide +kernel : ∀ k, k < 2 → (TX0 k).1 = RX0) k hk
  | 1, h => cases h; exact (by decide +kernel : ∀ k, k < 9 → (TX1 k).1 = RX1) k hk
  | 2, h => cases h; exact (by decide +kernel : ∀ k, k < 3 → (TX2 k).1 = RX2) k hk
  | 3, h => cases h; exact (by decide +kernel : ∀ k, k < 4 → (TX3 k).1 = RX3) k hk
  | 4, h => cases h; exact (by decide +kernel : ∀ k, k < 4 → (TX4 k).1 = RX4) k hk
  | k + 5, h => simp [vwCl] at h
theorem entry_obj {E : EV} {σ : Sg} {q : Lo} {x : Nat × List FS} (h : shp q = .inl x) : entry E σ q = .inr (x.1, fvs E (σ.1 q) 0 x.2) := by
  unfold entry; rw [h]
theorem entry_int {E : EV} {σ : Sg} {q : Lo} {n : Nat} (h : shp q = .inr (0, n)) : entry E σ q = .inl (E.2.2 0, n, .inl (σ.1 q)) := by
  unfold entry; rw [h]; rfl
theorem entry_chr {E : EV} {σ : Sg} {q : Lo} {n : Nat} (h : shp q = .inr (1, n)) : entry E σ q = .inl (E.2.2 1, n, .inl (σ.1 q)) := by
  unfold entry; rw [h]; rfl
theorem entry_ref {E : EV} {σ : Sg} {q : Lo} {n : Nat} (h : shp q = .inr (2, n)) : entry E σ q = .inl (E.2.2 2, n, .inr (.inr (.inr (.inr (fun i => some (E.1 (2, 0, σ.2 i))))))) := by
  unfold entry; rw [h]; rfl
theorem ok_av {V : Nat → Int32} {k i : Nat} {q : Lo} {x : Nat × List FS} {f : FS} (hq : q ∈ allLo) (h : shp q = .inl x) (hf : x.2[i]? = some f) : okV (av V k f) := by
  have h1 := sh_closed q hq
  unfold shOk at h1
  rw [h] at h1
  have h2 := List.all_eq_true.mp h1 f (List.mem_of_getElem? hf)
  rcases f with _ | c | r
  · trivial
  · trivial
  · have h3 : decide (r ∈ allLo) = true := h2
    exact (of_decide_eq_true h3 : r ∈ allLo)
theorem g_get {fl : List (Nat × Nat × Nat)} (hfl : ∀ e ∈ fl, FLw own e) {index ci k : Nat} {q : Lo} {x : Nat × List FS} {f : FS} (hi : (index, ci, k) ∈ fl) (hsh : shp q = .inl x) (hci : x.1 = ci) (hf : x.2[k]? = some f) (hd : decode cc pc = .ok (.getfield index, 3)) (kk : G l R own cc nL ret post (pc + 3) loc (av (σ.1 q) k f :: st) σ) : G l R own cc nL ret post pc loc (vR q :: st) σ := by
  intro E p e s m args below meth c H locs ls C hσ hst hloc hlen hlv hP hS
  obtain ⟨hx, hb, hml, hown, hts, hr, hlk, hK, hE⟩ := id C
  obtain ⟨r, hr1, hr2, hr3, hr4⟩ := hfl _ hi
  have hq : q ∈ allLo := ok_hd hst
  obtain ⟨i0, hi0⟩ := List.getElem?_of_mem hq
  have hg : (wsOf E σ)[i0]? = some (E.1 q, .inr (ci, fvs E (σ.1 q) 0 x.2)) := by rw [ws_get hi0, entry_obj hsh, hci]
  have hv : (fvs E (σ.1 q) 0 x.2)[k]? = some (cv E (av (σ.1 q) k f)) := by rw [fvs_get E (σ.1 q) x.2 0 k f hf, Nat.zero_add, cv_av]
  have fin := kk E p e s m args below meth c H locs ls C hσ (ok_cn (ok_av hq hsh hf) (ok_tl hst)) hloc hlen hlv hP hS
  rcases hr4 with hw | hw
  · exact va_get hx hb hts (iw_all ci r hr1) hown hK.1 hP i0 hg hr1 k hr2 (hts _ hw) (fun y hy => by rw [← dsc_same ci r hr1 k hr2]; exact hy) hv hd fin
  · exact va_getN hx hb hts (iw_all ci r hr1) hown hK.1 hP i0 hg hr1 k hr2 (va_Nw.use rfl (hK.2 _ hw)) (fun y hy => by rw [← dsc_same ci r hr1 k hr2]; exact hy) hv hd fin
def nfin (ci k : Nat) : Bool := (ci == 0 && k == 1) || (ci == 1 && Nat.ble 5 k) || (ci == 2 && k == 1) || (ci == 3 && k == 3) || (ci == 5 && (k == 3 || (Nat.ble 5 k && !(k == 9))))
def isZ (ci k : Nat) : Bool := (ci == 1 && k == 6) || (ci == 5 && k == 7)
theorem nfin_ok (ci : Nat) (r : vw_C) (h : vwCl[ci]? = some r) (k : Nat) (hk : k < r.2.2) (hn : nfin ci k = true) : (r.2.1 k).2.2.2 = false ∧ tyAll ci k = (if isZ ci k then .boolean else .int) := by
  match ci, h with
  | 0, h => cases h; exact (by decide +kernel : ∀ k, k < 2 → nfin 0 k = true → (TX0 k).2.2.2 = false ∧ tyAll 0 k = (if isZ 0 k then .boolean else .int)) k hk hn
  | 1, h => cases h; exact (by decide +kernel : ∀ k, k < 9 → nfin 1 k = true → (TX1 k).2.2.2 = false ∧ tyAll 1 k = (if isZ 1 k then .boolean else .int)) k hk hn
  | 2, h => cases h; exact (by decide +kernel : ∀ k, k < 3 → nfin 2 k = true → (TX2 k).2.2.2 = false ∧ tyAll 2 k = (if isZ 2 k then .boolean else .int)) k hk hn
  | 3, h => cases h; exact (by decide +kernel : ∀ k, k < 4 → nfin 3 k = true → (TX3 k).2.2.2 = false ∧ tyAll 3 k = (if isZ 3 k then .boolean else .int)) k hk hn
  | 4, h => cases h; exact (by decide +kernel : ∀ k, k < 4 → nfin 4 k = true → (TX4 k).2.2.2 = false ∧ tyAll 4 k = (if isZ 4 k then .boolean else .int)) k hk hn
  | k + 5, h => simp [vwCl] at h
theorem fvs_updq {E : EV} {V : Lo → Nat → Int32} {P : Nat → Nat} {q : Lo} {k : Nat} {v : Int32} {x : Nat × List FS} (h : shp q = .inl x) (hf : x.2[k]? = some none) : entry E (upd2 V q k v, P) q = .inr (x.1, (fvs E (V q) 0 x.2).set k (.int v)) := by
  rw [entry_obj h]
  show (Sum.inr (x.1, fvs E (upd2 V q k v q) 0 x.2) : va_E) = _
  rw [upd2_same]
  have := fvs_upd E (V q) v x.2 0 k hf
  rw [Nat.zero_add] at this
  rw [this]
theorem g_put {fl : List (Nat × Nat × Nat)} (hfl : ∀ e ∈ fl, FLw own e) {index ci k : Nat} {q : Lo} {x : Nat × List FS} {v : Int32} (hi : (index, ci, k) ∈ fl) (hsh : shp q = .inl x) (hci : x.1 = ci) (hf : x.2[k]? = some none) (hn : nfin ci k = true) (hz : isZ ci k = false ∨ v = 0 ∨ v = 1) (hd : decode cc pc = .ok (.putfield index, 3)) (kk : G l R own cc nL ret post (pc + 3) loc st (upd2 σ.1 q k v, σ.2)) : G l R own cc nL ret post pc loc (vI v :: vR q :: st) σ := by
  intro E p e s m args below meth c H locs ls C hσ hst hloc hlen hlv hP hS
  obtain ⟨hx, hb, hml, hown, hts, hr, hlk, hK, hE⟩ := id C
  obtain ⟨r, hr1, hr2, hr3, hr4⟩ := hfl _ hi
  have hq : q ∈ allLo := ok_hd (ok_tl hst)
  obtain ⟨i0, hi0⟩ := List.getElem?_of_mem hq
  have hg : (wsOf E σ)[i0]? = some (E.1 q, .inr (ci, fvs E (σ.1 q) 0 x.2)) := by rw [ws_get hi0, entry_obj hsh, hci]
  obtain ⟨hfin, hty⟩ := nfin_ok ci r hr1 k hr2 hn
  have hnar : narrow (tyAll ci k) (.int v) = .int v := by
    rw [hty]
    rcases hz with q | q | q
    · rw [q]; rfl
    · subst q; split <;> rfl
    · subst q; split <;> rfl
  have hfit : fits (tyAll ci k) (.int v) = true := by
    rw [hty]
    rcases hz with q | q | q
    · rw [q]; rfl
    · subst q; split <;> rfl
    · subst q; split <;> rfl
  have hl : k < (fvs E (σ.1 q) 0 x.2).length := by
    rw [fvs_len]
    exact (List.getElem?_eq_some_iff.mp hf).1
  have hset : (wsOf E σ).set i0 (E.1 q, .inr (ci, (fvs E (σ.1 q) 0 x.2).set k (.int v))) = wsOf E (upd2 σ.1 q k v, σ.2) := by
    have h1 := ws_set (E := E) (σ := σ) (σ' := (upd2 σ.1 q k v, σ.2)) hi0 (fun p hp => entry_ne (V := σ.1) (P := σ.2) hp)
    rw [fvs_updq (V := σ.1) hsh hf, hci] at h1
    exact h1
  rcases hr4 with hw | hw
  · refine va_put hx hb hts (iw_all ci r hr1) (tyAll ci) (ty_all ci r hr1) (nm_all ci r hr1) hown hK.1 hP (ws_D hE) hS i0 hg hr1 k hr2 (hts _ hw) (fun y hy => by rw [← dsc_same ci r hr1 k hr2]; exact hy) hfin (ty_all ci r hr1 k hr2) hnar hfit hl hd (fun H1 locs1 hP1 hD1 hS1 => ?_)
    have hP1 : va_P E.2.1 vwCl ((wsOf E σ).set i0 (E.1 q, .inr (ci, (fvs E (σ.1 q) 0 x.2).set k (.int v)))) H1 := hP1
    rw [hset] at hP1
    exact kk E p e s m args below meth c H1 locs1 ls C hσ (ok_tl (ok_tl hst)) hloc hlen hlv hP1 hS1
  · refine va_putN hx hb hts (iw_all ci r hr1) (tyAll ci) (ty_all ci r hr1) (nm_all ci r hr1) hown hK.1 hP (ws_D hE) hS i0 hg hr1 k hr2 (va_Nw.use rfl (hK.2 _ hw)) (fun y hy => by rw [← dsc_same ci r hr1 k hr2]; exact hy) hfin (ty_all ci r hr1 k hr2) hnar hfit hl hd (fun H1 locs1 hP1 hD1 hS1 => ?_)
    have hP1 : va_P E.2.1 vwCl ((wsOf E σ).set i0 (E.1 q, .inr (ci, (fvs E (σ.1 q) 0 x.2).set k (.int v)))) H1 := hP1
    rw [hset] at hP1
    exact kk E p e s m args below meth c H1 locs1 ls C hσ (ok_tl (ok_tl hst)) hloc hlen hlv hP1 hS1
-- arrays
theorem g_iald {q : Lo} {n : Nat} {i : Int32} (hsh : shp q = .inr (0, n)) (hin : vp_in i n) (hd : decode cc pc = .ok (.iaload, 1)) (kk : G l R own cc nL ret post (pc + 1) loc (vI (σ.1 q i.toNatClampNeg) :: st) σ) : G l R own cc nL ret post pc loc (vI i :: vR q :: st) σ := by
  intro E p e s m args below meth c H locs ls C hσ hst hloc hlen hlv hP hS
  obtain ⟨hx, hb, hml, hown, hts, hr, hlk, hK, hE⟩ := id C
  have hq : q ∈ allLo := ok_hd (ok_tl hst)
  obtain ⟨i0, hi0⟩ := List.getElem?_of_mem hq
  have hg : (wsOf E σ)[i0]? = some (E.1 q, .inl (E.2.2 0, n, .inl (σ.1 q))) := by rw [ws_get hi0, entry_int hsh]
  exact va_iald hx hb hK.1 hP i0 0 hg rfl hin hd (kk E p e s m args below meth c H locs ls C hσ (ok_cn (a := vI _) trivial (ok_tl (ok_tl hst))) hloc hlen hlv hP hS)
theorem g_cald {q : Lo} {n : Nat} {i : Int32} (hsh : shp q = .inr (1, n)) (hin : vp_in i n) (hd : decode cc pc = .ok (.caload, 1)) (kk : G l R own cc nL ret post (pc + 1) loc (vI (σ.1 q i.toNatClampNeg) :: st) σ) : G l R own cc nL ret post pc loc (vI i :: vR q :: st) σ := by
  intro E p e s m args below meth c H locs ls C hσ hst hloc hlen hlv hP hS
  obtain ⟨hx, hb, hml, hown, hts, hr, hlk, hK, hE⟩ := id C
  have hq : q ∈ allLo := ok_hd (ok_tl hst)
  obtain ⟨i0, hi0⟩ := List.getElem?_of_mem hq
  have hg : (wsOf E σ)[i0]? = some (E.1 q, .inl (E.2.2 1, n, .inl (σ.1 q))) := by rw [ws_get hi0, entry_chr hsh]
  exact va_cald hx hb hK.1 hP i0 1 hg rfl hin hd (kk E p e s m args below meth c H locs ls C hσ (ok_cn (a := vI _) trivial (ok_tl (ok_tl hst))) hloc hlen hlv hP hS)
theorem set_int {E : EV} {σ : Sg} {q : Lo} {n i0 j : Nat} {v : Int32} (hsh : shp q = .inr (0, n)) (hi0 : allLo[i0]? = some q) : (wsOf E σ).set i0 (E.1 q, .inl (E.2.2 0, n, .inl (upd (σ.1 q) j v))) = wsOf E (upd2 σ.1 q j v, σ.2) := by
  have h1 := ws_set (E := E) (σ := σ) (σ' := (upd2 σ.1 q j v, σ.2)) hi0 (fun p hp => entry_ne (V := σ.1) (P := σ.2) hp)
  rw [entry_int hsh] at h1
  rw [show (upd2 σ.1 q j v, σ.2).1 q = upd (σ.1 q) j v from upd2_same σ.1 q j v] at h1
  exact h1
theorem set_chr {E : EV} {σ : Sg} {q : Lo} {n i0 j : Nat} {v : Int32} (hsh : shp q = .inr (1, n)) (hi0 : allLo[i0]? = some q) : (wsOf E σ).set i0 (E.1 q, .inl (E.2.2 1, n, .inl (upd (σ.1 q) j v))) = wsOf E (upd2 σ.1 q j v, σ.2) := by
  have h1 := ws_set (E := E) (σ := σ) (σ' := (upd2 σ.1 q j v, σ.2)) hi0 (fun p hp => entry_ne (V := σ.1) (P := σ.2) hp)
  rw [entry_chr hsh] at h1
  rw [show (upd2 σ.1 q j v, σ.2).1 q = upd (σ.1 q) j v from upd2_same σ.1 q j v] at h1
  exact h1
theorem g_iast {q : Lo} {n : Nat} {i v : Int32} (hsh : shp q = .inr (0, n)) (hin : vp_in i n) (hd : decode cc pc = .ok (.iastore, 1)) (kk : G l R own cc nL ret post (pc + 1) loc st (upd2 σ.1 q i.toNatClampNeg v, σ.2)) : G l R own cc nL ret post pc loc (vI v :: vI i :: vR q :: st) σ := by
  intro E p e s m args below meth c H locs ls C hσ hst hloc hlen hlv hP hS
  obtain ⟨hx, hb, hml, hown, hts, hr, hlk, hK, hE⟩ := id C
  have hq : q ∈ allLo := ok_hd (ok_tl (ok_tl hst))
  obtain ⟨i0, hi0⟩ := List.getElem?_of_mem hq
  have hg : (wsOf E σ)[i0]? = some (E.1 q, .inl (E.2.2 0, n, .inl (σ.1 q))) := by rw [ws_get hi0, entry_int hsh]
  refine va_iast hx hb hK.1 hP (ws_D hE) hS i0 0 hg rfl hin hd (fun H1 locs1 hP1 hD1 hS1 => ?_)
  rw [set_int hsh hi0] at hP1
  exact kk E p e s m args below meth c H1 locs1 ls C hσ (ok_tl (ok_tl (ok_tl hst))) hloc hlen hlv hP1 hS1
theorem g_cast {q : Lo} {n : Nat} {i v : Int32} (hsh : shp q = .inr (1, n)) (hin : vp_in i n) (hd : decode cc pc = .ok (.castore, 1)) (kk : G l R own cc nL ret post (pc + 1) loc st (upd2 σ.1 q i.toNatClampNeg (vp_nar .char v), σ.2)) : G l R own cc nL ret post pc loc (vI v :: vI i :: vR q :: st) σ := by
  intro E p e s m args below meth c H locs ls C hσ hst hloc hlen hlv hP hS
  obtain ⟨hx, hb, hml, hown, hts, hr, hlk, hK, hE⟩ := id C
  have hq : q ∈ allLo := ok_hd (ok_tl (ok_tl hst))
  obtain ⟨i0, hi0⟩ := List.getElem?_of_mem hq
  have hg : (wsOf E σ)[i0]? = some (E.1 q, .inl (E.2.2 1, n, .inl (σ.1 q))) := by rw [ws_get hi0, entry_chr hsh]
  refine va_cast hx hb hK.1 hP (ws_D hE) hS i0 1 hg rfl hin hd (fun H1 locs1 hP1 hD1 hS1 => ?_)
  rw [set_chr hsh hi0] at hP1
  exact kk E p e s m args below meth c H1 locs1 ls C hσ (ok_tl (ok_tl (ok_tl hst))) hloc hlen hlv hP1 hS1
theorem g_alen {q : Lo} {x : Nat × Nat} (hsh : shp q = .inr x) (hx3 : x.1 < 3) (hd : decode cc pc = .ok (.arraylength, 1)) (kk : G l R own cc nL ret post (pc + 1) loc (vI (Int32.ofNat x.2) :: st) σ) : G l R own cc nL ret post pc loc (vR q :: st) σ := by
  intro E p e s m args below meth c H locs ls C hσ hst hloc hlen hlv hP hS
  obtain ⟨hx, hb, hml, hown, hts, hr, hlk, hK, hE⟩ := id C
  have hq : q ∈ allLo := ok_hd hst
  obtain ⟨i0, hi0⟩ := List.getElem?_of_mem hq
  have fin := kk E p e s m args below meth c H locs ls C hσ (ok_cn (a := vI _) trivial (ok_tl hst)) hloc hlen hlv hP hS
  obtain ⟨t, n⟩ := x
  have ht : t = 0 ∨ t = 1 ∨ t = 2 := by simp only at hx3; omega
  rcases ht with rfl | rfl | rfl
  · exact va_alen hx hb hK.1 hP i0 0 ((ws_get hi0).trans (by rw [entry_int hsh])) (x := (n, .inl (σ.1 q))) rfl rfl hd fin
  · exact va_alen hx hb hK.1 hP i0 1 ((ws_get hi0).trans (by rw [entry_chr hsh])) (x := (n, .inl (σ.1 q))) rfl rfl hd fin
  · exact va_alen hx hb hK.1 hP i0 2 ((ws_get hi0).trans (by rw [entry_ref hsh])) (x := (n, .inr (.inr (.inr (.inr (fun i => some (E.1 (2, 0, σ.2 i)))))))) rfl rfl hd fin
theorem g_aald {q : Lo} {n : Nat} {i : Int32} (hsh : shp q = .inr (2, n)) (hin : vp_in i n) (hd : decode cc pc = .ok (.aaload, 1)) (kk : G l R own cc nL ret post (pc + 1) loc (vR (2, 0, σ.2 i.toNatClampNeg) :: st) σ) : G l R own cc nL ret post pc loc (vI i :: vR q :: st) σ := by
  intro E p e s m args below meth c H locs ls C hσ hst hloc hlen hlv hP hS
  obtain ⟨hx, hb, hml, hown, hts, hr, hlk, hK, hE⟩ := id C
  have hq : q ∈ allLo := ok_hd (ok_tl hst)
  obtain ⟨i0, hi0⟩ := List.getElem?_of_mem hq
  have hg : (wsOf E σ)[i0]? = some (E.1 q, .inl (E.2.2 2, n, .inr (.inr (.inr (.inr (fun i => some (E.1 (2, 0, σ.2 i)))))))) := by rw [ws_get hi0, entry_ref hsh]
  exact va_aldq hx hb hK.1 hP i0 2 hg rfl hin hd (kk E p e s m args below meth c H locs ls C hσ (ok_cn (a := vR _) (lo_H (hσ _)) (ok_tl (ok_tl hst))) hloc hlen hlv hP hS)
theorem g_aast {q : Lo} {n h : Nat} {i : Int32} (hh : h < 8) (hsh : shp q = .inr (2, n)) (honly : ∀ p, p ≠ q → ∀ m, shp p ≠ .inr (2, m)) (hin : vp_in i n) (hd : decode cc pc = .ok (.aastore, 1)) (kk : G l R own cc nL ret post (pc + 1) loc st (σ.1, va_up σ.2 i.toNatClampNeg h)) : G l R own cc nL ret post pc loc (vR (2, 0, h) :: vI i :: vR q :: st) σ := by
  intro E p e s m args below meth c H locs ls C hσ hst hloc hlen hlv hP hS
  obtain ⟨hx, hb, hml, hown, hts, hr, hlk, hK, hE⟩ := id C
  have hq : q ∈ allLo := ok_hd (ok_tl (ok_tl hst))
  obtain ⟨i0, hi0⟩ := List.getElem?_of_mem hq
  obtain ⟨i1, hi1⟩ := List.getElem?_of_mem (lo_H hh)
  have hg : (wsOf E σ)[i0]? = some (E.1 q, .inl (E.2.2 2, n, .inr (.inr (.inr (.inr (fun i => some (E.1 (2, 0, σ.2 i)))))))) := by rw [ws_get hi0, entry_ref hsh]
  have hg1 : (wsOf E σ)[i1]? = some (E.1 (2, 0, h), .inr (1, fvs E (σ.1 (2, 0, h)) 0 [fr (0, 0, h), fr (0, 1, h), fr (0, 2, h), fr (0, 3, h), fr (0, 4, h), none, none, none, none])) := by rw [ws_get hi1]; rfl
  refine va_astq hx hb hK.1 hP (ws_D hE) hS i0 2 i1 1 hg rfl hg1 rfl hin hd (fun H1 locs1 hP1 hD1 hS1 => ?_)
  have hset : (wsOf E σ).set i0 (E.1 q, .inl (E.2.2 2, n, .inr (.inr (.inr (.inr (va_up (fun i => some (E.1 (2, 0, σ.2 i))) i.toNatClampNeg (some (E.1 (2, 0, h))))))))) = wsOf E (σ.1, va_up σ.2 i.toNatClampNeg h) := by
    have h1 := ws_set (E := E) (σ := σ) (σ' := (σ.1, va_up σ.2 i.toNatClampNeg h)) hi0 (fun p hp => by
      unfold entry
      cases hs : shp p with
      | inl x => rfl
      | inr x =>
        obtain ⟨t, m⟩ := x
        match t, hs with
        | 0, hs => rfl
        | 1, hs => rfl
        | 2, hs => exact absurd hs (honly p hp m)
        | t + 3, hs => exact absurd (shp_kind p _ hs) (by simp))
    rw [entry_ref hsh] at h1
    rw [← h1]
    have hf : (va_up (fun i => some (E.1 (2, 0, σ.2 i))) i.toNatClampNeg (some (E.1 (2, 0, h)))) = fun j => some (E.1 (2, 0, va_up σ.2 i.toNatClampNeg h j)) := by
      funext j
      simp only [va_up]
      split <;> rfl
    rw [hf]
  rw [hset] at hP1
  refine kk E p e s m args below meth c H1 locs1 ls C (fun j => ?_) (ok_tl (ok_tl (ok_tl hst))) hloc hlen hlv hP1 hS1
  simp only [va_up]
  split
  · exact hh
  · exact hσ j
end ROWS2
