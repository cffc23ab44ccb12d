/-! SOUNDNESS, 4: writes whose heap keeps its size; what the tables of fields say -/
def mx_ty (ci k : Nat) : FieldType := (parseFieldDescriptor (mx_tf ci k).2.2.1).getD .int
def mx_tyk (ci k : Nat) : Bool := decide (parseFieldDescriptor (mx_tf ci k).2.2.1 = some (mx_ty ci k)) && (if mxFi ci k then decide ((mx_ty ci k = .int ∧ (mx_tf ci k).2.2.1 = "I") ∨ (mx_ty ci k = .boolean ∧ (mx_tf ci k).2.2.1 = "Z")) else (match mx_ty ci k with | .object _ => true | .array _ => true | _ => false))
theorem mx_tyk_all : (List.range 11).all (fun ci => (List.range (mxNf ci)).all (mx_tyk ci)) = true := by decide +kernel
theorem mx_ty_ok {ci : Nat} (hci : ci < 11) : ∀ k, k < mxNf ci → parseFieldDescriptor (mx_tf ci k).2.2.1 = some (mx_ty ci k) := by
  intro k hk
  have h := List.all_eq_true.mp (List.all_eq_true.mp mx_tyk_all ci (List.mem_range.mpr hci)) k (List.mem_range.mpr hk)
  unfold mx_tyk at h
  rw [Bool.and_eq_true] at h
  exact of_decide_eq_true h.1
theorem mx_ty_int {ci k : Nat} (hci : ci < 11) (hk : k < mxNf ci) (hf : mxFi ci k = true) : (mx_ty ci k = .int ∧ (mx_tf ci k).2.2.1 = "I") ∨ (mx_ty ci k = .boolean ∧ (mx_tf ci k).2.2.1 = "Z") := by
  have h := List.all_eq_true.mp (List.all_eq_true.mp mx_tyk_all ci (List.mem_range.mpr hci)) k (List.mem_range.mpr hk)
  unfold mx_tyk at h
  rw [Bool.and_eq_true, if_pos hf] at h
  exact of_decide_eq_true h.2
theorem mx_ty_ref {ci k : Nat} (hci : ci < 11) (hk : k < mxNf ci) (hf : mxFi ci k = false) : (∃ n, mx_ty ci k = .object n) ∨ ∃ t, mx_ty ci k = .array t := by
  have h := List.all_eq_true.mp (List.all_eq_true.mp mx_tyk_all ci (List.mem_range.mpr hci)) k (List.mem_range.mpr hk)
  unfold mx_tyk at h
  rw [Bool.and_eq_true, if_neg (by rw [hf]; exact fun q => by cases q)] at h
  have h2 := h.2
  split at h2
  · rename_i n hn
    exact Or.inl ⟨n, hn⟩
  · rename_i t ht
    exact Or.inr ⟨t, ht⟩
  · cases h2
theorem mx_cl_get {ci : Nat} (hci : ci < 11) : vwCl[ci]? = some (mx_cn ci, mx_tf ci, mxNf ci) := by
  rcases (show ci = 0 ∨ ci = 1 ∨ ci = 2 ∨ ci = 3 ∨ ci = 4 ∨ ci = 5 ∨ ci = 6 ∨ ci = 7 ∨ ci = 8 ∨ ci = 9 ∨ ci = 10 by omega) with rfl | rfl | rfl | rfl | rfl | rfl | rfl | rfl | rfl | rfl | rfl <;> rfl
theorem mx_uw {ci : Nat} (hci : ci < 11) : ∀ w ∈ u_ws (mx_cn ci) (mx_tf ci) (mxNf ci), w ∈ mxAll := by
  rcases (show ci = 0 ∨ ci = 1 ∨ ci = 2 ∨ ci = 3 ∨ ci = 4 ∨ ci = 5 ∨ ci = 6 ∨ ci = 7 ∨ ci = 8 ∨ ci = 9 ∨ ci = 10 by omega) with rfl | rfl | rfl | rfl | rfl | rfl | rfl | rfl | rfl | rfl | rfl
  · exact mx_uw_0
  · exact mx_uw_1
  · exact mx_uw_2
  · exact mx_uw_3
  · exact mx_uw_4
  · exact mx_uw_5
  · exact mx_uw_6
  · exact mx_uw_7
  · exact mx_uw_8
  · exact mx_uw_9
  · exact mx_uw_10
def mx_nmk (ci : Nat) : Bool := (List.range (mxNf ci)).all (fun a => (List.range (mxNf ci)).all (fun b => decide (a = b) || decide ((mx_tf ci a).2.1 ≠ (mx_tf ci b).2.1)))
theorem mx_nm {ci : Nat} (hci : ci < 11) : ∀ a, a < mxNf ci → ∀ b, b < mxNf ci → a ≠ b → (mx_tf ci a).2.1 ≠ (mx_tf ci b).2.1 := by
  rcases (show ci = 0 ∨ ci = 1 ∨ ci = 2 ∨ ci = 3 ∨ ci = 4 ∨ ci = 5 ∨ ci = 6 ∨ ci = 7 ∨ ci = 8 ∨ ci = 9 ∨ ci = 10 by omega) with rfl | rfl | rfl | rfl | rfl | rfl | rfl | rfl | rfl | rfl | rfl
  · exact nmX0
  · exact nmX1
  · exact nmX2
  · exact nmX3
  · exact nmX4
  · exact nmX5
  · exact nmX6
  · exact nmX7
  · exact nmX8
  · exact nmX11
  · exact nmX12
section SND4
variable {p : Program} {l : Launch} {e : Env} {R : Room} {s : State} {m : MethodId} {args : Array Value} {below : List Frame} {meth : Method} {c : Code} {H : Heap} {locs : List Loc} {cells slots : Nat} {Q : State → Prop}
variable {cc : ByteArray} {pc : Nat} {ls : Array Slot} {rest : List Value} {D : va_G} {cl : List vw_C} {A : Nat → Prop} {a : Nat} {tys : List (ClassId × FieldType)} {ws : va_W} {H0 : Heap}
/-- a field is written, final ones in the constructor: as va_put and va_putF, and the heap keeps its size -/
theorem mx_putE (hexec : p.tables.exec = Jvm.exec) (hb : c.code = cc) {own C : String} {T : u_T} {N ci index : Nat} {Ts : List Cond} (hts : ∀ w ∈ Ts, w.before args s = true) (hin : ∀ w ∈ u_ws C T N, w ∈ Ts) (ty0 : Nat → FieldType) (hty : ∀ k, k < N → parseFieldDescriptor (T k).2.2.1 = some (ty0 k)) (hnm : ∀ a, a < N → ∀ b, b < N → a ≠ b → (T a).2.1 ≠ (T b).2.1) (hown : s.vm.findClass own = some m.cls) (hK : va_K D cl tys s) (hP : va_P D cl ws H) (hD : va_D A ws) (hS0 : va_S A H0 H locs) (q0 : Nat) {fs : List Value} (he : ws[q0]? = some (a, .inr (ci, fs))) (hc : cl[ci]? = some (C, T, N)) (k : Nat) (hk : k < N) (hlink : (Cond.fieldLink own index (T k).1 (T k).2.1 (T k).2.2.1).before args s = true) (hfin : (T k).2.2.2 = false ∨ (meth.name = "<init>" ∧ (T k).1 = own)) {v : Value} (hn : narrow (ty0 k) v = v) (hfit : fits (ty0 k) v = true) (hl : k < fs.length)
    (hdg : decode cc pc = .ok (.putfield index, 3)) (kk : ∀ (H1 : Heap) (locs1 : List Loc), va_P D cl (ws.set q0 (a, .inr (ci, fs.set k v))) H1 → H1.size = H.size → va_S A H0 H1 locs1 → W p l e R s m args below meth c H1 locs1 cells slots Q (F0 m (pc + 3) ls rest)) : W p l e R s m args below meth c H locs cells slots Q (F0 m pc ls (v :: .ref a :: rest)) := by
  have hap := va_apart (own := own) hts hin ty0 hty hnm hK hc
  obtain ⟨r, h1, cell, q1, q2, q3, q4⟩ := hP q0 _ he
  have hr : r = (C, T, N) := Option.some.inj (h1.symm.trans hc)
  subst hr
  obtain ⟨hS, hfc, kC, hkC, hkind⟩ := hK.1 ci _ hc
  obtain ⟨cf, kf, fi, f, hi, hsl⟩ := hS k hk
  have hlay := hts _ (hin _ (u_in_lay hk))
  unfold u_lay at hlay
  have hst := (u_facts hfc hkC (u_lays hts hin hk) hi).1
  have fin : ∀ (H' : Heap), H'[a]? = some (cell.setSlot f.slot v) → H'.size = H.size → (∀ q, q ≠ a → H'[q]? = H[q]?) → W p l e R s m args below meth c H' (locs ++ [⟨a, f.slot⟩]) cells slots Q (F0 m (pc + 3) ls rest) := by
    intro H' e1 e2 e3
    rw [hsl] at e1 ⊢
    exact kk H' _ (hP.set hD he ⟨_, hc, t_OB.to (V := updV (vp_V fs) k v) ⟨_, e1, q2, q3, t_set q4 hap hk v⟩ (fun j _ => vp_updV_set hl v j)⟩ e3) e2 (hS0.put e2 e3 (hD.2 q0 _ he))
  by_cases hff : (T k).2.2.2 = true
  · rw [if_pos hff] at hlay
    obtain ⟨hin2, hdecl⟩ := hfin.resolve_left (by rw [hff]; exact fun q => by cases q)
    have hcf : m.cls = cf := by
      obtain ⟨_, _, c', _, _, _, -, -, hf', -, -, -, hown2, -⟩ := Cond.laysFinal_spec hlay
      have e1 : c' = cf := by have := hi.symm.trans hf'; simp at this; exact this.1.symm
      rw [hdecl] at hown2
      rw [← e1]; exact Option.some.inj (hown.symm.trans hown2)
    have h6 := u_fits hfc hkC hkind (Or.inr hlay) hi (hty k hk) hn hfit
    exact W.putFinK hexec hb hown hlink hi hst hcf hin2 (by rw [q2]; exact h6) q1 q3 (by rw [hsl]; exact k2_hasslot (q4 k hk)) rfl rfl hdg fin
  · rw [if_neg hff] at hlay
    have h6 := u_store hfc hkC hkind hlay hi (hty k hk) hn hfit
    exact W.putK hexec hb (f := f) ⟨hown, hlink, ⟨_, _, _, hi⟩, hst⟩ (by rw [q2]; exact h6) q1 q3 (by rw [hsl]; exact k2_hasslot (q4 k hk)) rfl rfl hdg fin
theorem mx_iastE (hexec : p.tables.exec = Jvm.exec) (hb : c.code = cc) (hK : va_K D cl tys s) (hP : va_P D cl ws H) (hD : va_D A ws) (hS : va_S A H0 H locs) (q0 t0 : Nat) {cA : ClassId} {n : Nat} {f : Nat → Int32} (ha : ws[q0]? = some (a, .inl (cA, n, .inl f))) (ht : tys[t0]? = some (cA, .int)) {i : Int32} {x : Int32} (hin : vp_in i n) (hdg : decode cc pc = .ok (.iastore, 1))
    (kk : ∀ (H1 : Heap) (locs1 : List Loc), va_P D cl (ws.set q0 (a, .inl (cA, n, .inl (upd f i.toNatClampNeg x)))) H1 → H1.size = H.size → va_S A H0 H1 locs1 → W p l e R s m args below meth c H1 locs1 cells slots Q (F0 m (pc + 1) ls rest)) : W p l e R s m args below meth c H locs cells slots Q (F0 m pc ls (.int x :: .int i :: .ref a :: rest)) := by
  refine W.iast hexec hb (hP q0 _ ha) ((hK.2 t0 _ ht).1 n (fun j => .int (f j))) (fun q => by cases q) (by show ¬ (i < 0 ∨ (arrV _ _ _).slots.size ≤ _); rw [arrV_size]; exact hin) rfl rfl hdg fun H1 e z oq => ?_
  refine kk H1 _ (hP.set hD ha ?_ oq) z (hS.put z oq (hD.2 q0 _ ha))
  show H1[a]? = some (vp_cell _ _)
  rw [e, vp_cell_i, vp_cell_i, arrV_store]
  congr 2
  funext q
  by_cases hq : q = i.toNatClampNeg
  · subst hq
    simp [updV, upd]
  · simp [updV, upd, hq]
theorem mx_aastE (hexec : p.tables.exec = Jvm.exec) (hb : c.code = cc) (hK : va_K D cl tys s) (hP : va_P D cl ws H) (hD : va_D A ws) (hS : va_S A H0 H locs) (q0 t0 qk ci : Nat) {cA : ClassId} {r : vw_C} {n v : Nat} {vs : List Value} {f : Nat → Option Nat} (ha : ws[q0]? = some (a, .inl (cA, n, .inr (.inr (.inr (.inr f)))))) (ht : tys[t0]? = some (cA, .object r.1)) (hv : ws[qk]? = some (v, .inr (ci, vs))) (hc : cl[ci]? = some r) {i : Int32} (hin : vp_in i n) (hdg : decode cc pc = .ok (.aastore, 1))
    (kk : ∀ (H1 : Heap) (locs1 : List Loc), va_P D cl (ws.set q0 (a, .inl (cA, n, .inr (.inr (.inr (.inr (va_up f i.toNatClampNeg (some v)))))))) H1 → H1.size = H.size → va_S A H0 H1 locs1 → W p l e R s m args below meth c H1 locs1 cells slots Q (F0 m (pc + 1) ls rest)) : W p l e R s m args below meth c H locs cells slots Q (F0 m pc ls (.ref v :: .int i :: .ref a :: rest)) := by
  have hlt : i.toNatClampNeg < n := Nat.not_le.mp fun q => hin (Or.inr q)
  have h0 : ¬ i < 0 := fun q => hin (Or.inl q)
  obtain ⟨r', hr', cellV, g1, g2, g3, -⟩ := hP qk _ hv
  have hcls := (hK.1 ci r hc).2
  obtain ⟨kA, comp, k1, k2, k3, -⟩ := (hK.2 t0 _ ht).2
  have hcomp : comp = D.1 ci := Option.some.inj (k3.symm.trans hcls.1)
  subst hcomp
  obtain ⟨kC, hkC, -⟩ := hcls.2
  refine W.aast hexec hb (hP q0 _ ha) (fun q h => by cases h) (fun h => by cases h) k1 k2 rfl hkC ⟨h0, by show _ < (arrV _ _ _).slots.size; rw [arrV_size]; exact hlt⟩ g1 (fun q h => by rw [g3] at h; cases h) (by rw [g2]; exact hkC) (by rw [g2]; exact va_assign hcls) rfl rfl hdg fun H1 e z oq => ?_
  refine kk H1 _ (hP.set hD ha ?_ oq) z (hS.put z oq (hD.2 q0 _ ha))
  show H1[a]? = some (vp_cell _ _)
  rw [e, vp_cell_q, vp_cell_q, arrV_store]
  congr 2
  funext q
  by_cases hq : q = i.toNatClampNeg
  · subst hq
    simp [updV, va_up, va_rf]
  · simp [updV, va_up, hq]
/-- an entry of a constant row of references -/
theorem mx_ta (hexec : p.tables.exec = Jvm.exec) (hb : c.code = cc) {C : String} {t N : Nat} {f : Nat → Value} (hT : va_T (.object C) t N f A s s.heap) (hS : va_S A s.heap H locs) {i : Int32} (hin : vp_in i N) {v : Value} (hv : f i.toNatClampNeg = v) (hdg : decode cc pc = .ok (.aaload, 1))
    (kk : W p l e R s m args below meth c H locs cells slots Q (F0 m (pc + 1) ls (v :: rest))) : W p l e R s m args below meth c H locs cells slots Q (F0 m pc ls (.int i :: .ref t :: rest)) := by
  obtain ⟨cell, h1, h2, h3, h4, h5, h6, h7⟩ := hT
  have hlt : i.toNatClampNeg < N := Nat.not_le.mp fun q => hin (Or.inr q)
  have hin' : ¬ (i < 0 ∨ cell.slots.size ≤ i.toNatClampNeg) := by
    intro q
    rcases q with q | q
    · exact hin (Or.inl q)
    · omega
  exact W.aald (v := v) (ty := .object C) hexec hb (by rw [hS.2.1 t (Array.getElem?_eq_some_iff.mp h1).1 h7]; exact h1) h2 rfl h3 hin' (by rw [h6 _ hlt, hv]) rfl rfl hdg kk
end SND4
/-! the cells of a small heap, and its writes -/
theorem mx_arr (G : mxGl) {h : mxH} {a : Nat} (h1 : 100 ≤ a) (h2 : a < 100 + mx_c h) : (mx_ws G h)[a - 100]? = some (g_N G + (a - 100), mx_E G h a) := by
  rw [mx_ws_get G (show a - 100 < mx_c h by omega), show 100 + (a - 100) = a by omega]
theorem mx_alc {h : mxH} (hg : mxG h) {a : Nat} (hs : (mxT a).1 ≠ 0) : 100 ≤ a ∧ a < 100 + mx_c h := by
  have := mx_T_lt hs
  rw [hg.1]
  omega
theorem mx_Rep_set (G : mxGl) {h h' : mxH} {H H1 : Heap} {a : Nat} {E : va_E} (hR : mx_Rep G h H) (hc : mx_c h' = mx_c h) (hr1 : mx_r h' 1 0 = mx_r h 1 0) (hi1 : mx_i h' 1 = mx_i h 1) (ha : 100 ≤ a) (hE : mx_E G h' a = E) (ho : ∀ b, b ≠ a → mx_E G h' b = mx_E G h b)
    (hP : va_P (g_D G) vwCl ((mx_ws G h).set (a - 100) (g_N G + (a - 100), E)) H1) (hz : mx_c h < 292 → H1.size = H.size) : mx_Rep G h' H1 := by
  obtain ⟨r1, r2, r3, r4⟩ := hR
  refine ⟨fun q => ?_, ?_, ⟨hr1.trans r3.1, fun j hj => by rw [hi1]; exact r3.2 j hj⟩, by rw [hc]; exact r4⟩
  · rw [hc] at q ⊢
    rw [hz q]; exact r1 q
  · rw [← mx_ws_set G hc (i := a - 100) (e := E) (by rw [show 100 + (a - 100) = a by omega]; exact hE) (fun j hj => ho _ (by omega))]
    exact hP
theorem mx_E_wi (G : mxGl) (h : mxH) {a b : Nat} (k : Nat) (x : Int32) (hb : b ≠ a) : mx_E G (mx_wi h a k x) b = mx_E G h b := mx_E_congr G (mx_up_ne (mx_i h) k x hb) rfl rfl
theorem mx_E_wr (G : mxGl) (h : mxH) {a b : Nat} (k : Nat) (x : Nat) (hb : b ≠ a) : mx_E G (mx_wr h a k x) b = mx_E G h b := mx_E_congr G rfl (mx_up_ne (mx_r h) k x hb) rfl
theorem mx_E_wl (G : mxGl) (h : mxH) {a b : Nat} (k : Nat) (x : Int64) (hb : b ≠ a) : mx_E G (mx_wl h a k x) b = mx_E G h b := mx_E_congr G rfl rfl (mx_up_ne (mx_l h) k x hb)
theorem mx_E_wrow (G : mxGl) (h : mxH) {a b : Nat} (g : Nat → Int32) (hb : b ≠ a) : mx_E G (mx_wrow h a g) b = mx_E G h b := mx_E_congr G (mx_rw_ne (mx_i h) g hb) rfl rfl
theorem mx_i1_wi (h : mxH) {a : Nat} (k : Nat) (x : Int32) (ha : 100 ≤ a) : mx_i (mx_wi h a k x) 1 = mx_i h 1 := mx_up_ne (mx_i h) k x (by omega)
theorem mx_r1_wr (h : mxH) {a : Nat} (k : Nat) (x : Nat) (ha : 100 ≤ a) : mx_r (mx_wr h a k x) 1 0 = mx_r h 1 0 := congrFun (mx_up_ne (mx_r h) k x (by omega)) 0
theorem mx_upd_i (h : mxH) (a k : Nat) (x : Int32) : mx_i (mx_wi h a k x) a = upd (mx_i h a) k x := mx_up_eq (mx_i h) a k x
/-- behind a write of an int field, of a reference field, of an int in a row -/
theorem mx_Rep_fi (G : mxGl) {h : mxH} {H H1 : Heap} {a ci k : Nat} {x : Int32} (hR : mx_Rep G h H) (hs : (mxT a).1 = ci + 1) (hci : ci < 11) (hf : mxFi ci k = true) (hP : va_P (g_D G) vwCl ((mx_ws G h).set (a - 100) (g_N G + (a - 100), .inr (ci, (mx_fs G h ci a).set k (.int x)))) H1) (hz : mx_c h < 292 → H1.size = H.size) : mx_Rep G (mx_wi h a k x) H1 := by
  have ha := (mx_T_lt (a := a) (by omega)).1
  refine mx_Rep_set G hR rfl rfl (mx_i1_wi h k x ha) ha ?_ (fun b hb => mx_E_wi G h k x hb) hP hz
  rw [mx_E_o G hs hci]
  congr 2
  symm
  refine mx_fs_set G ?_ (fun j hj => ?_)
  · unfold mx_fv
    rw [if_pos hf, mx_upd_i]
    simp [upd]
  · unfold mx_fv
    rw [mx_upd_i]
    simp only [upd, hj, if_false]
    rfl
theorem mx_Rep_fr (G : mxGl) {h : mxH} {H H1 : Heap} {a ci k x : Nat} (hR : mx_Rep G h H) (hs : (mxT a).1 = ci + 1) (hci : ci < 11) (hf : mxFi ci k = false) (hP : va_P (g_D G) vwCl ((mx_ws G h).set (a - 100) (g_N G + (a - 100), .inr (ci, (mx_fs G h ci a).set k (mx_rc G x)))) H1) (hz : mx_c h < 292 → H1.size = H.size) : mx_Rep G (mx_wr h a k x) H1 := by
  have ha := (mx_T_lt (a := a) (by omega)).1
  refine mx_Rep_set G hR rfl (mx_r1_wr h k x ha) rfl ha ?_ (fun b hb => mx_E_wr G h k x hb) hP hz
  rw [mx_E_o G hs hci]
  congr 2
  symm
  refine mx_fs_set G ?_ (fun j hj => ?_)
  · unfold mx_fv
    rw [if_neg (by rw [hf]; exact fun q => by cases q)]
    show mx_rc G (mx_up (mx_r h) a k x a k) = _
    rw [mx_up_eq]
    simp
  · unfold mx_fv
    show (if mxFi ci j = true then _ else mx_rc G (mx_up (mx_r h) a k x a j)) = _
    rw [mx_up_eq]
    simp only [hj, if_false]
    rfl
theorem mx_Rep_ai (G : mxGl) {h : mxH} {H H1 : Heap} {a k : Nat} {x : Int32} (hR : mx_Rep G h H) (hs : (mxT a).1 = 50) (hP : va_P (g_D G) vwCl ((mx_ws G h).set (a - 100) (g_N G + (a - 100), .inl (g_A G 0, (mxT a).2, .inl (upd (mx_i h a) k x)))) H1) (hz : mx_c h < 292 → H1.size = H.size) : mx_Rep G (mx_wi h a k x) H1 := by
  have ha := (mx_T_lt (a := a) (by omega)).1
  refine mx_Rep_set G hR rfl rfl (mx_i1_wi h k x ha) ha ?_ (fun b hb => mx_E_wi G h k x hb) hP hz
  rw [mx_E_i G hs, mx_upd_i]
theorem mx_Rep_ab (G : mxGl) {h : mxH} {H H1 : Heap} {a k : Nat} {x : Int32} (hR : mx_Rep G h H) (hs : (mxT a).1 = 51) (hP : va_P (g_D G) vwCl ((mx_ws G h).set (a - 100) (g_N G + (a - 100), .inl (g_A G 1, (mxT a).2, .inl (upd (mx_i h a) k x)))) H1) (hz : mx_c h < 292 → H1.size = H.size) : mx_Rep G (mx_wi h a k x) H1 := by
  have ha := (mx_T_lt (a := a) (by omega)).1
  refine mx_Rep_set G hR rfl rfl (mx_i1_wi h k x ha) ha ?_ (fun b hb => mx_E_wi G h k x hb) hP hz
  rw [mx_E_b G hs, mx_upd_i]
theorem mx_Rep_al (G : mxGl) {h : mxH} {H H1 : Heap} {a k : Nat} {x : Int64} (hR : mx_Rep G h H) (hs : (mxT a).1 = 52) (hP : va_P (g_D G) vwCl ((mx_ws G h).set (a - 100) (g_N G + (a - 100), .inl (g_A G 2, (mxT a).2, .inr (.inl (vp_updL (mx_l h a) k x))))) H1) (hz : mx_c h < 292 → H1.size = H.size) : mx_Rep G (mx_wl h a k x) H1 := by
  have ha := (mx_T_lt (a := a) (by omega)).1
  refine mx_Rep_set G hR rfl rfl rfl ha ?_ (fun b hb => mx_E_wl G h k x hb) hP hz
  rw [mx_E_l G hs]
  show _ = ((.inl (g_A G 2, (mxT a).2, .inr (.inl (vp_updL (mx_l h a) k x)))) : va_E)
  rw [show mx_l (mx_wl h a k x) a = vp_updL (mx_l h a) k x from mx_up_eq (mx_l h) a k x]
theorem mx_ro_up (G : mxGl) (f : Nat → Nat → Nat) (a k x : Nat) (u : Option Nat) (hu : mx_ro G x = u) : (fun j => mx_ro G (mx_up f a k x a j)) = va_up (fun j => mx_ro G (f a j)) k u := by
  funext j
  rw [mx_up_eq]
  unfold va_up
  by_cases hj : j = k
  · simp only [hj, if_true]; exact hu
  · simp only [hj, if_false]
theorem mx_Rep_aw (G : mxGl) {h : mxH} {H H1 : Heap} {a k x : Nat} {u : Option Nat} (hR : mx_Rep G h H) (hs : (mxT a).1 = 53) (hu : mx_ro G x = u) (hP : va_P (g_D G) vwCl ((mx_ws G h).set (a - 100) (g_N G + (a - 100), .inl (g_A G 3, (mxT a).2, .inr (.inr (.inr (.inr (va_up (fun j => mx_ro G (mx_r h a j)) k u))))))) H1) (hz : mx_c h < 292 → H1.size = H.size) : mx_Rep G (mx_wr h a k x) H1 := by
  have ha := (mx_T_lt (a := a) (by omega)).1
  refine mx_Rep_set G hR rfl (mx_r1_wr h k x ha) rfl ha ?_ (fun b hb => mx_E_wr G h k x hb) hP hz
  rw [mx_E_w G hs, ← mx_ro_up G (mx_r h) a k x u hu]
  rfl
theorem mx_Rep_av (G : mxGl) {h : mxH} {H H1 : Heap} {a k x : Nat} {u : Option Nat} (hR : mx_Rep G h H) (hs : (mxT a).1 = 54) (hu : mx_ro G x = u) (hP : va_P (g_D G) vwCl ((mx_ws G h).set (a - 100) (g_N G + (a - 100), .inl (g_A G 4, (mxT a).2, .inr (.inr (.inr (.inr (va_up (fun j => mx_ro G (mx_r h a j)) k u))))))) H1) (hz : mx_c h < 292 → H1.size = H.size) : mx_Rep G (mx_wr h a k x) H1 := by
  have ha := (mx_T_lt (a := a) (by omega)).1
  refine mx_Rep_set G hR rfl (mx_r1_wr h k x ha) rfl ha ?_ (fun b hb => mx_E_wr G h k x hb) hP hz
  rw [mx_E_v G hs, ← mx_ro_up G (mx_r h) a k x u hu]
  rfl
theorem mx_Rep_cp (G : mxGl) {h : mxH} {H H1 : Heap} {a : Nat} {g : Nat → Int32} (hR : mx_Rep G h H) (hs : (mxT a).1 = 50) (hP : va_P (g_D G) vwCl ((mx_ws G h).set (a - 100) (g_N G + (a - 100), .inl (g_A G 0, (mxT a).2, .inl g))) H1) (hz : mx_c h < 292 → H1.size = H.size) : mx_Rep G (mx_wrow h a g) H1 := by
  have ha := (mx_T_lt (a := a) (by omega)).1
  refine mx_Rep_set G hR rfl rfl (mx_rw_ne (mx_i h) g (by omega)) ha ?_ (fun b hb => mx_E_wrow G h g hb) hP hz
  rw [mx_E_i G hs]
  show _ = ((.inl (g_A G 0, (mxT a).2, .inl g)) : va_E)
  rw [show mx_i (mx_wrow h a g) a = g from mx_rw_eq (mx_i h) a g]
