/-! SPECS by hand, 21: what the law says of a person: the class -/
theorem mxT3' {b : Nat} (h : (mxT b).1 = 3) : b = 151 ∨ b = 158 ∨ b = 181 := (by decide +kernel : ∀ b : Fin 400, (mxT b).1 = 3 → b.val = 151 ∨ b.val = 158 ∨ b.val = 181) ⟨b, by have := mxT_lt h; omega⟩ h
theorem mxT9' {a : Nat} (h : (mxT a).1 = 9) : a = 119 ∨ a = 135 ∨ a = 165 ∨ (189 ≤ a ∧ a ≤ 365) := (by decide +kernel : ∀ b : Fin 400, (mxT b).1 = 9 → b.val = 119 ∨ b.val = 135 ∨ b.val = 165 ∨ (189 ≤ b.val ∧ b.val ≤ 365)) ⟨a, by have := mxT_lt h; omega⟩ h
theorem vl_ne {a b : Nat} (ha : (mxT a).1 = 9) (hb : (mxT b).1 = 3) : b + 6 < a ∨ a + 15 < b := by
  have := mxT3' hb
  have := mxT9' ha
  omega
/-- facts of a person, out of the row -/
def Ff (r : Nat → Int32) (x k : Nat) : Int32 := if k = 0 then nI x else if k = 1 then V_205 r (nI x) else if k = 2 then r (33 + 6 * x + 1) else if k = 3 then r (33 + 6 * x + 2) else if k = 4 then r (9 + (r (33 + 6 * x + 2)).toNatClampNeg) else if k = 5 then r (33 + 6 * x + 4) else if k = 6 then r 5 - r 5 / 24 * 24 else if k = 7 then (if r (33 + 6 * x + 2) = r (33 + 6 * x + 3) then 1 else 0) else (if V_205 r (nI x) = 0 then 1 else 0)
def Lw (u : Nat → Nat → Int32) (Ls : List LL) : Prop := u 0 1 = nI Ls.length ∧ (∀ i, i < Ls.length → u 1 i = (Ls.getD i (0, 0, [])).1 ∧ u 2 i = (Ls.getD i (0, 0, [])).2.1 ∧ u 3 i = nI (offL Ls i)) ∧ u 0 2 = nI (cdL Ls).length ∧ ∀ i, i < (cdL Ls).length → u 4 i = (cdL Ls).getD i 0
def Lb (Ls : List LL) : Prop := ∀ L, L ∈ Ls → isR L.2.1 0 99
def LC (u : Nat → Nat → Int32) (W : Option (List LL)) : Prop := match W with
  | none => u 0 0 = 0
  | some Ls => u 0 0 = 1 ∧ Lw u Ls ∧ Ls.length ≤ 12 ∧ (cdL Ls).length ≤ 400 ∧ Lb Ls
def LR (r : Nat → Int32) (W : Option (List LL)) : Prop := match W with
  | none => r 1 = -1
  | some Ls => (Ls.length ≤ 12 ∧ Lb Ls) ∧ r 1 = nI Ls.length ∧ ∃ (T : Nat → Int32) (n : Nat), n ≤ 400 ∧ (∀ k, n ≤ k → T k = 0) ∧ r 2 = nI n ∧ (∀ k, k < n → r (369 + k) = T k) ∧ pLaw T n = .inr Ls
def LWd : mxLW := fun u r => ∃ W, LC u W ∧ LR r W
theorem LC_congr {u u' : Nat → Nat → Int32} {W : Option (List LL)} (e : ∀ k j, inL k j → u' k j = u k j) (h : LC u W) : LC u' W := by
  match W, h with
  | none, h => exact (e 0 0 (by unfold inL; omega)).trans h
  | some Ls, h =>
    obtain ⟨h1, ⟨a1, a2, a3, a4⟩, h3, h4⟩ := h
    refine ⟨(e 0 0 (by unfold inL; omega)).trans h1, ⟨(e 0 1 (by unfold inL; omega)).trans a1, fun i hi => ?_, (e 0 2 (by unfold inL; omega)).trans a3, fun i hi => (e 4 i (by unfold inL; omega)).trans (a4 i hi)⟩, h3, h4⟩
    rw [e 1 i (by unfold inL; omega), e 2 i (by unfold inL; omega), e 3 i (by unfold inL; omega)]
    exact a2 i hi
theorem LR_congr {r r' : Nat → Int32} {W : Option (List LL)} (e : ∀ k, k = 1 ∨ k = 2 ∨ (369 ≤ k ∧ k < 769) → r' k = r k) (h : LR r W) : LR r' W := by
  match W, h with
  | none, h => exact (e 1 (by omega)).trans h
  | some Ls, h =>
    obtain ⟨h1, h2, T, n, a1, a2, a3, a4, a5⟩ := h
    exact ⟨h1, (e 1 (by omega)).trans h2, T, n, a1, a2, (e 2 (by omega)).trans a3, fun k hk => (e _ (by omega)).trans (a4 k hk), a5⟩
theorem LWd_ok : LWok LWd := fun u u' r r' e1 e2 ⟨W, h1, h2⟩ => ⟨W, LC_congr e1 h1, LR_congr e2 h2⟩
/-- what the law says: 0 tires, 1 earns, 2 hurts -/
def ask (W : Option (List LL)) (r : Nat → Int32) (x j : Nat) : Int32 := match W with
  | none => if j = 0 then V_205 r (nI x) / 4 else if j = 1 then (if 0 < 10 - V_205 r (nI x) / 4 then 10 - V_205 r (nI x) / 4 else 0) else (if 0 < V_205 r (nI x) - r (33 + 6 * x + 1) then V_205 r (nI x) - r (33 + 6 * x + 1) else 0)
  | some Ls => smL (Ff r x) j Ls 0
def askC (W : Option (List LL)) (r : Nat → Int32) (x j : Nat) : Int32 := match W with
  | none => ask none r x j
  | some Ls => if j = 2 then (if ask (some Ls) r x j < 100 then ask (some Ls) r x j else 100) else ask (some Ls) r x j
section
variable {h : mxH} {a b : Nat} {r : Nat → Int32} {np ns nl x : Nat}
theorem W26_U (h : mxH) (b a : Nat) (i : Int32) : mxU (fun c => c = b + 5) h (W_26 h b a i) := by
  unfold W_26
  exact mxU_tr (mxU_tr (mxU_tr (mxU_tr (mxU_tr (mxU_tr (mxU_tr (mxU_tr (mxU_wi rfl) (mxU_wi rfl)) (mxU_wi rfl)) (mxU_wi rfl)) (mxU_wi rfl)) (mxU_wi rfl)) (mxU_wi rfl)) (mxU_wi rfl)) (mxU_wi rfl)
theorem W26_F (ha : (mxT a).1 = 9) (hb : (mxT b).1 = 3) (C : CpN (vw h a) r np ns nl) (hx : x < np) : ∀ k, k < 9 → mx_i (W_26 h b a (nI x)) (b + 5) k = Ff r x k := by
  have d := vl_ne ha hb
  have h6 := C_np6 C
  have n0 : a ≠ b + 5 := by omega
  have n3 : a + 3 ≠ b + 5 := by omega
  have n4 : a + 4 ≠ b + 5 := by omega
  have n5 : a + 5 ≠ b + 5 := by omega
  have n6 : a + 6 ≠ b + 5 := by omega
  have n15 : a + 15 ≠ b + 5 := by omega
  have pl := Cu_l C hx
  have c12 : (r (33 + 6 * x + 2)).toNatClampNeg < 12 := by
    have : isI (r (33 + 6 * x + 2)) (nI 12) := ⟨by have := pl.1; grind, by have := pl.2; show _ < (12 : Int32); grind⟩
    exact vp_lt (vp_of_isI (n := 12) (m := 12) (by decide) (by decide) (Nat.le_refl _) this)
  intro k hk
  unfold W_26
  simp only [wi_ne n0, wi_ne n3, wi_ne n4, wi_ne n5, wi_ne n6, wi_ne n15, nI_clamp (show x < 2 ^ 31 by omega), Cu3 C hx, Cu4 C hx, Cu5 C hx, Cu6 C hx, C_slope C c12, C_hour C, cm_load C]
  have : k = 0 ∨ k = 1 ∨ k = 2 ∨ k = 3 ∨ k = 4 ∨ k = 5 ∨ k = 6 ∨ k = 7 ∨ k = 8 := by omega
  rcases this with rfl | rfl | rfl | rfl | rfl | rfl | rfl | rfl | rfl <;> simp [wi_i, Ff]
end
theorem drop_s {Ls : List LL} {i : Nat} (hi : i < Ls.length) : Ls.drop i = Ls.getD i (0, 0, []) :: Ls.drop (i + 1) := by
  rw [List.getD_eq_getElem?_getD, List.getElem?_eq_getElem hi]
  exact List.drop_eq_getElem_cons hi
theorem H24 {d a b j : Nat} {F : Nat → Int32} {h0 : mxH} {Q : mxO → mxH → Prop} {Ls : List LL} {v : Int32} (hVb : (mxT b).1 = 3) (hVa : (mxT a).1 = 9) (hj : j < 3) (S : Li h0 b Ls) (hc : (cdL Ls).length ≤ 400) (hL : Ls.length ≤ 12) (VF : ∀ k, k < 9 → mx_i h0 (b + 5) k = F k) (fin : ∀ (h1 : mxH), mxU (fun c => c = b + 6) h0 h1 → Q (.inl (some (.int (if nI j = 2 then (if v < 100 then v else 100) else v)))) h1) : ∀ (m i : Nat) (h : mxH) (i4 : Int32), m + i = Ls.length → mxG h → mxU (fun c => c = b + 6) h0 h → smL F j (Ls.drop i) i4 = v → H_24_23 (d + 2) h b a (nI j) i4 (nI i) Q := by
  obtain ⟨s1, s2, s3, s4⟩ := S
  intro m
  induction m with
  | zero =>
    intro i h i4 hm G U hv
    have e1 : mx_i h b 1 = nI Ls.length := by rw [mxU_i U (by omega)]; exact s1
    refine tr_24_23 G hVb hVa ⟨fun c => ?_, fun _ v2 e2 => ?_⟩
    · rw [e1, show i = Ls.length by omega] at c
      exact absurd c Int32.lt_irrefl
    · rw [show i = Ls.length by omega, List.drop_length] at hv
      have hv : i4 = v := hv
      rw [hv] at e2
      rw [e2]
      exact fin h U
  | succ m ih =>
    intro i h i4 hm G U hv
    have hi : i < Ls.length := by omega
    have e1 : mx_i h b 1 = nI Ls.length := by rw [mxU_i U (by omega)]; exact s1
    have nc : (nI i).toNatClampNeg = i := nI_clamp (by omega)
    have ek : mx_i h (b + 1) i = (Ls.getD i (0, 0, [])).1 := by rw [mxU_i U (by omega)]; exact (s2 i hi).1
    rw [drop_s hi] at hv
    have hv : smL F j (Ls.drop (i + 1)) (i4 + (if (Ls.getD i (0, 0, [])).1 = nI j ∧ hl F (Ls.getD i (0, 0, [])).2.2 = true then (Ls.getD i (0, 0, [])).2.1 else 0)) = v := hv
    refine tr_24_23 G hVb hVa ⟨fun _ => ⟨vp_in_nI (by omega) (by decide), ?_⟩, fun c => absurd (by rw [e1]; exact nI_lt hi (by omega)) c⟩
    rw [nc, ek, nI_1]
    refine ⟨fun c => ?_, fun c => ?_⟩
    · have Sh : Li h b Ls := by
        refine ⟨e1, fun i hi => ?_, ?_, fun i hi => ?_⟩
        · rw [mxU_i U (by omega), mxU_i U (by omega), mxU_i U (by omega)]; exact s2 i hi
        · rw [mxU_i U (by omega)]; exact s3
        · rw [mxU_i U (by omega)]; exact s4 i hi
      have VFh : ∀ k, k < 9 → mx_i h (b + 5) k = F k := fun k hk => by rw [mxU_i U (by omega)]; exact VF k hk
      refine ⟨⟨(F, Ls, i), Sh, hc, hL, VFh, hi, rfl⟩, fun x7 h8 u8 v11 e11 => ?_⟩
      have ex := u8.2 F Ls i Sh hc hL VFh hi rfl
      have U8 := mxU_tr U u8.1
      refine ih (i + 1) h8 v11 (by omega) (mxU_G u8.1 G) U8 ?_
      rw [← hv]
      congr 1
      have ea : mx_i h8 (b + 2) i = (Ls.getD i (0, 0, [])).2.1 := by rw [mxU_i U8 (by omega)]; exact (s2 i hi).2.1
      rw [ea, ex] at e11
      rw [e11]
      by_cases z : hl F (Ls.getD i (0, 0, [])).2.2 = true
      · rw [if_pos z, if_neg (by decide), if_pos ⟨c, z⟩]
      · rw [if_neg z, if_pos rfl, if_neg (fun q => z q.2), Int32.add_zero]
    · refine ih (i + 1) h i4 (by omega) G U ?_
      rw [if_neg (fun q => c q.1), Int32.add_zero] at hv
      exact hv
abbrev A24 : Type := Option (List LL) × (Nat → Int32) × Nat × Nat × Nat × Nat × Nat
def P24 (h : mxH) (b : Nat) (i1 : Int32) (a : Nat) (i3 : Int32) (q : A24) : Prop := CpN (vw h a) q.2.1 q.2.2.1 q.2.2.2.1 q.2.2.2.2.1 ∧ LC (lw h b) q.1 ∧ q.2.2.2.2.2.1 < q.2.2.1 ∧ i3 = nI q.2.2.2.2.2.1 ∧ q.2.2.2.2.2.2 < 3 ∧ i1 = nI q.2.2.2.2.2.2
def ok24 (h : mxH) (b : Nat) (i1 : Int32) (a : Nat) (i3 : Int32) : Prop := ∃ q, P24 h b i1 a i3 q
def p24 (b : Nat) (i1 : Int32) (a : Nat) (i3 : Int32) (h : mxH) (x : Int32) (h1 : mxH) : Prop := mxU (fun c => c = b + 5 ∨ c = b + 6) h h1 ∧ ∀ W r np ns nl y j, CpN (vw h a) r np ns nl → LC (lw h b) W → y < np → i3 = nI y → j < 3 → i1 = nI j → x = askC W r y j
theorem sp_24 {d : Nat} {h : mxH} {Q : mxO → mxH → Prop} {b : Nat} {i1 : Int32} {a : Nat} {i3 : Int32} (G : mxG h) (hVb : (mxT b).1 = 3) (hVa : (mxT a).1 = 9) (ok : ok24 h b i1 a i3) (k : ∀ x h1, p24 b i1 a i3 h x h1 → Q (.inl (some (.int x))) h1) : mx_wp (d + 2) 24 0 (mx_fr 24 [.ref b, .int i1, .ref a, .int i3]) [] h Q := by
  refine all_mut (F := mxU (fun c => c = b + 5 ∨ c = b + 6) h) (R := fun q x h1 => x = askC q.1 q.2.1 q.2.2.2.2.2.1 q.2.2.2.2.2.2) ok (fun q pq => ?_) (fun x h1 f r => k x h1 ⟨f, fun W r' np ns nl y j a1 a2 a3 a4 a5 a6 => r (W, r', np, ns, nl, y, j) ⟨a1, a2, a3, a4, a5, a6⟩⟩)
  obtain ⟨W, r, np, ns, nl, y, j⟩ := q
  obtain ⟨C, L, hy, ey, hj, ej⟩ := pq
  have C : CpN (vw h a) r np ns nl := C
  have L : LC (lw h b) W := L
  have hy : y < np := hy
  have ey : i3 = nI y := ey
  have hj : j < 3 := hj
  have ej : i1 = nI j := ej
  subst ey ej
  have h6 := C_np6 C
  have nc : (nI y).toNatClampNeg = y := nI_clamp (by omega)
  match W, L with
  | none, L =>
    have L : mx_i h b 0 = 0 := L
    refine tr_24_0 G hVb hVa ⟨fun _ => ⟨C_cs C, vp_in_nI (by omega) (by decide), _, rfl, mxU_rfl, ?_⟩, fun c => absurd L c⟩
    show V_25 h (nI j) (V_77 h a (nI y)) (mx_i h (a + 3) (nI y).toNatClampNeg) = ask none r y j
    rw [nc, cm_load C, Cu3 C hy]
    have : j = 0 ∨ j = 1 ∨ j = 2 := by omega
    rcases this with rfl | rfl | rfl <;> rfl
  | some Ls, L =>
    obtain ⟨L1, L2, L3, L4, L5⟩ := L
    have L1 : mx_i h b 0 = 1 := L1
    have dj := vl_ne hVa hVb
    have pl := Cu_l C hy
    have v12 : vp_in (mx_i h (a + 4) (nI y).toNatClampNeg) 12 := by
      rw [nc, Cu4 C hy]
      have : isI (r (33 + 6 * y + 2)) (nI 12) := ⟨by have := pl.1; grind, by have := pl.2; show _ < (12 : Int32); grind⟩
      exact vp_of_isI (n := 12) (m := 12) (by decide) (by decide) (Nat.le_refl _) this
    refine tr_24_0 G hVb hVa ⟨fun c => absurd (L1.symm.trans c) (by decide), fun _ => ⟨vp_in_nI (by omega) (by decide), C_cs C, v12, fun h5 e5 => ?_⟩⟩
    have U5 : mxU (fun c => c = b + 5) h h5 := by rw [e5]; exact W26_U h b a _
    have S5 : Li h5 b Ls := by
      obtain ⟨s1, s2, s3, s4⟩ := L2
      refine ⟨?_, fun i hi => ?_, ?_, fun i hi => ?_⟩
      · rw [mxU_i U5 (by omega)]; exact s1
      · rw [mxU_i U5 (by omega), mxU_i U5 (by omega), mxU_i U5 (by omega)]; exact s2 i hi
      · rw [mxU_i U5 (by omega)]; exact s3
      · rw [mxU_i U5 (by omega)]; exact s4 i hi
    refine H24 (F := Ff r y) (h0 := h5) (Ls := Ls) (v := ask (some Ls) r y j) hVb hVa hj S5 L4 L3 (by rw [e5]; exact W26_F hVa hVb C hy) (fun h1 U => ⟨_, rfl, mxU_tr (mxU_mono (fun c hc => .inl hc) U5) (mxU_mono (fun c hc => .inr hc) U), ?_⟩) Ls.length 0 h5 0 rfl (mxU_G U5 G) mxU_rfl rfl
    show _ = askC (some Ls) r y j
    unfold askC
    have : j = 0 ∨ j = 1 ∨ j = 2 := by omega
    rcases this with rfl | rfl | rfl <;> rfl
