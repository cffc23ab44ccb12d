/-! SOUNDNESS, 14: what the small machine does, the machine does -/
theorem mx_at_rep (n : Nat) : ∀ (k : Nat) (v : Value), mx_at (List.replicate n none) k = some v → False := by
  induction n with
  | zero => intro k v h; cases h
  | succ n ih =>
    intro k v h
    cases k with
    | zero => cases h
    | succ k => exact ih k v h
theorem mx_fr_args (G : mxGl) (hG : g_ok G) (n : Nat) : ∀ (as : List Value) (i k : Nat) (v : Value), (∀ v ∈ as, v.category = 1) → mx_at (as.map some ++ List.replicate n none) k = some v → (i + k, mx_rv G v) ∈ lv_args i (as.map (mx_rv G)) := by
  intro as
  induction as with
  | nil => intro i k v _ h; exact (mx_at_rep n k v h).elim
  | cons a as ih =>
    intro i k v hc h
    have ha : (mx_rv G a).category = 1 := by rw [mx_rv_cat G hG]; exact hc a List.mem_cons_self
    rw [List.map_cons]
    unfold lv_args
    cases k with
    | zero =>
      have h9 : some a = some v := h
      cases h9
      exact List.mem_cons_self
    | succ k =>
      rw [if_neg (by rw [ha]; decide)]
      have := ih (i + 1) k v (fun v hv => hc v (List.mem_cons_of_mem _ hv)) h
      rw [show i + 1 + k = i + (k + 1) by omega] at this
      exact List.mem_cons_of_mem _ this
theorem mx_sl_len : ∀ (vs : List Value), (∀ v ∈ vs, v.category = 1) → (lg_sl vs).length = vs.length := by
  intro vs
  induction vs with
  | nil => intro _; rfl
  | cons v vs ih =>
    intro hc
    have h1 := hc v List.mem_cons_self
    have h2 := ih (fun w hw => hc w (List.mem_cons_of_mem _ hw))
    unfold lg_sl at h2 ⊢
    rw [List.flatMap_cons, if_neg (by rw [h1]; decide), List.length_append, h2, List.length_cons]
    simp only [List.length_cons, List.length_nil]
    omega
theorem mx_fr_at {y : Nat} {as : List Value} {k : Nat} {v : Value} (h : mx_at (mx_fr y as) k = some v) : v ∈ as := by
  unfold mx_fr at h
  revert k
  induction as with
  | nil => intro k h; exact (mx_at_rep _ k v h).elim
  | cons a as ih =>
    intro k h
    cases k with
    | zero =>
      have h9 : some a = some v := h
      cases h9
      exact List.mem_cons_self
    | succ k =>
      have h9 : mx_at (as.map some ++ List.replicate (mxL y - (as.length + 1)) none) k = some v := h
      clear ih h
      refine List.mem_cons_of_mem _ ?_
      generalize mxL y - (as.length + 1) = n9 at h9
      revert k
      induction as with
      | nil => intro k h; exact (mx_at_rep _ k v h).elim
      | cons b bs ih2 =>
        intro k h
        cases k with
        | zero =>
          have h8 : some b = some v := h
          cases h8
          exact List.mem_cons_self
        | succ k => exact List.mem_cons_of_mem _ (ih2 k h)
theorem mx_entry (G : mxGl) (hG : g_ok G) {y : Nat} {as : List Value} (hc : ∀ v ∈ as, v.category = 1) (hlen : as.length = mxA y) (hle : mxA y ≤ mxL y) : mx_LR G y (mx_fr y as) ((lg_sl (as.map (mx_rv G)) ++ List.replicate (mxL y - (lg_sl (as.map (mx_rv G))).length) Slot.unset).toArray) := by
  have hc' : ∀ v ∈ as.map (mx_rv G), v.category = 1 := by
    intro v hv
    obtain ⟨u, hu, rfl⟩ := List.mem_map.mp hv
    rw [mx_rv_cat G hG]
    exact hc u hu
  have hl := mx_sl_len _ hc'
  rw [List.length_map] at hl
  have he := lv_entry (as.map (mx_rv G)) (n := mxL y) (by rw [hl]; omega)
  refine ⟨?_, ⟨he.1, he.2.1, ?_⟩, fun k v hv => hc v (mx_fr_at hv)⟩
  · unfold mx_fr
    rw [List.length_append, List.length_map, List.length_replicate]
    omega
  · rintro ⟨k, w⟩ hq
    obtain ⟨v, hv, rfl⟩ := mx_ll_mem.mp hq
    have := mx_fr_args G hG _ as 0 k v hc hv
    rw [Nat.zero_add] at this
    exact he.2.2 _ this
def mx_Wt (n : Nat) : Prop := ∀ (d y i : Nat) (ls : mxLs) (st : List Value) (h h' : mxH) (o : mxO), mx_go n d y i ls st h = some (o, h') →
  ∀ (G : mxGl) (p : Program) (l : Launch) (e : Env) (R : Room) (s : State) (m : MethodId) (args : Array Value) (below : List Frame) (meth : Method) (c : Code) (h0 : mxH), mx_Cx G p l s m meth c y → d + 8 ≤ R.frames → 64 * d + 128 ≤ R.locals → mx_le h0 h → mx_cs h' - mx_cs h0 ≤ R.cells → mx_n h' - mx_n h0 ≤ R.slots →
  mx_WW G p l e R s m args below meth c y h0 (vx_MQ below (mx_Qc G o h') (mx_XC G o h') args s (mx_cs h' - mx_cs h0) (mx_n h' - mx_n h0) (g_F G)) i ls st h
theorem mx_pc0 {y : Nat} (h : mx_pcs (mxC y) 0 = 0) : mx_pc y 0 = 0 := by unfold mx_pc; rw [h]; rfl
set_option maxHeartbeats 4000000 in
theorem mx_M_of_W (hall : ∀ y, y < 347 → mx_ok y = true) {n : Nat} (hW : mx_Wt n) : mx_Mt n := by
  intro d y as h h' o hgo hy hlen hcat G l hG hl
  obtain ⟨k1, k2, k3, k4, k5, k6, k7, k8, k9, k10, k11⟩ := mx_ok0_inv (hall y hy)
  have body : ∀ (p : Program) (e : Env) (s : State) (m : MethodId) (below : List Frame) (meth : Method) (c : Code), mx_Cx G p l s m meth c y → mx_Rep G h s.heap →
      W p l e (mx_rmm d h h') s m (as.map (mx_rv G)).toArray below meth c s.heap [] 0 0 (vx_MQ below (mx_Qc G o h') (mx_XC G o h') (as.map (mx_rv G)).toArray s (mx_cs h' - mx_cs h) (mx_n h' - mx_n h) (g_F G)) (entryFrame m (as.map (mx_rv G)).toArray (mxL y)) := by
    intro p e s m below meth c C hR
    rw [lg_entry_eq]
    have z := hW d y 0 (mx_fr y as) [] h h' o hgo G p l e (mx_rmm d h h') s m (as.map (mx_rv G)).toArray below meth c h C (Nat.le_refl _) (Nat.le_refl _) (mx_le_refl h) (Nat.le_refl _) (Nat.le_refl _) s.heap [] _ hR ⟨Nat.le_refl _, fun _ _ _ => rfl, fun _ hq => absurd hq List.not_mem_nil⟩ (mx_entry G hG hcat hlen k4)
    rw [Nat.sub_self, Nat.sub_self, mx_pc0 k7] at z
    exact z
  by_cases hh : mxHh y = []
  · refine vx_ofW (ws' := []) (cc := mxB y) (maxL := mxL y) (ret := mxR y) k1 (mx_wd_code hh) ?_
    intro p e s m args below meth c s₁ B hml hnot hP
    obtain ⟨rfl, hK, hST, hR⟩ := hP
    exact body p e s m below meth c ⟨B.exec, B.bytes, hml, by rw [← k11]; exact findClass_of_methodNamed B.named, hK, hST, B.notSynchronized, B.returns, (name_of_methodNamed B.named B.method).1, hG, hl, by rw [hh, mx_tab0]; exact List.eq_nil_iff_forall_not_mem.mpr hnot, hall y hy, hy⟩ hR
  · refine vx_ofWH (ws' := []) (cc := mxB y) (maxL := mxL y) (ret := mxR y) (hh := mxHh y) k1 (mx_wd_with hh) ?_
    intro p e s m args below meth c s₁ B hml hP
    obtain ⟨rfl, hK, hST, hR⟩ := hP
    have htab : c.exceptionTable.toList = tableOf (mxHh y) := vx_table (x := mxN y) B (atoms_spec (ws := mx_wd y) B.pre _ (by rw [mx_wd_with hh]; exact List.mem_cons_self))
    exact body p e s m below meth c ⟨B.exec, B.bytes, hml, by rw [← k11]; exact findClass_of_methodNamed B.named, hK, hST, B.notSynchronized, B.returns, (name_of_methodNamed B.named B.method).1, hG, hl, htab, hall y hy, hy⟩ hR
set_option maxHeartbeats 4000000 in
theorem mx_sound (hall : ∀ y, y < 347 → mx_ok y = true) : ∀ n, mx_Wt n := by
  intro n
  induction n with
  | zero => intro d y i ls st h h' o H; cases H
  | succ n ih =>
    intro d y i ls st h h' o H G p l e R s m args below meth c h0 C hRf hRl hm hc1 hc2
    have hMt := mx_M_of_W hall ih
    have hle := mx_go_le (n + 1) H
    rw [mx_go_s] at H
    obtain ⟨pc, ins, len, r, v, he, H⟩ := mx_F_cases H
    rcases H with ⟨ls', st', hA, H⟩ | ⟨st', h1, P, hB, hP, H⟩ | ⟨j, st', hJ, H⟩ | ⟨P, cd, st', hbr, hP, H⟩ | ⟨v0, P, hr, hP, rfl, rfl⟩ | ⟨k, ht, hc, hst, rfl, rfl⟩ | ⟨y', as, rest, P, d', hcal, rfl, hP, hr8, o1, h1, H1, H⟩
    · exact mx_sA C he hA (ih d y (i + 1) ls' st' h h' o H G p l e R s m args below meth c h0 C hRf hRl hm hc1 hc2)
    · have hl1 := mx_B_le hB
      have hl2 := mx_go_le n H
      exact mx_sB C he hB hP (by omega) (by omega) hm.1 hm.2 (by have := hl2.1; omega) (by have := hl2.2; omega) (ih d y (i + 1) ls st' h1 h' o H G p l e R s m args below meth c h0 C hRf hRl (hm.trans hl1) hc1 hc2)
    · exact mx_sJ C he hJ (ih d y j ls st' h h' o H G p l e R s m args below meth c h0 C hRf hRl hm hc1 hc2)
    · refine mx_sbr C he hbr hP (fun q => ?_) (fun q => ?_)
      · rcases H with ⟨-, H⟩ | ⟨q2, -⟩
        · exact ih d y (r.headD 0) ls st' h h' o H G p l e R s m args below meth c h0 C hRf hRl hm hc1 hc2
        · exact absurd q q2
      · rcases H with ⟨q2, -⟩ | ⟨-, H⟩
        · exact absurd q2 q
        · exact ih d y (i + 1) ls st' h h' o H G p l e R s m args below meth c h0 C hRf hRl hm hc1 hc2
    · exact mx_sret C he hr hP
    · exact mx_sthr C he ht hc hst (by omega) (by omega) hm.1 hm.2 hc1 hc2
    · have hl1 := mx_go_le n H1
      have hm1 : mx_le h0 h1 := hm.trans hl1
      have hlx : mx_le h1 h' := by
        rcases H with ⟨w, -, H⟩ | ⟨k, j, q, -, -, H⟩ | ⟨k, -, -, -, rfl⟩
        · exact mx_go_le n H
        · exact mx_go_le n H
        · exact mx_le_refl _
      refine mx_scall hall C hMt he hcal hP hr8 H1 (by omega) (by omega) hm (by have := hlx.1; omega) (by have := hlx.2; omega) (fun w hw => ?_) (fun k hk => ?_)
      · rcases H with ⟨w2, hw2, H⟩ | ⟨k, j, q, hk, -, -⟩ | ⟨k, hk, -⟩
        · rw [hw] at hw2
          cases hw2
          exact ih (d' + 1) y (i + 1) ls (w.toList ++ rest) h1 h' o H G p l e R s m args below meth c h0 C hRf hRl hm1 hc1 hc2
        · rw [hw] at hk; cases hk
        · rw [hw] at hk; cases hk
      · rcases H with ⟨w2, hw2, H⟩ | ⟨k2, j, q, hk2, hexc, H⟩ | ⟨k2, hk2, hexc, rfl, rfl⟩
        · rw [hk] at hw2; cases hw2
        · rw [hk] at hk2
          cases hk2
          exact Or.inl ⟨j, q, hexc, ih (d' + 1) y j (ls.set q none) [] h1 h' o H G p l e R s m args below meth c h0 C hRf hRl hm1 hc1 hc2⟩
        · rw [hk] at hk2
          cases hk2
          exact Or.inr ⟨hexc, _, rfl⟩
