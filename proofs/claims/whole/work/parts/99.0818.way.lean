/-! SHARE: the loop of the reference -/
section
variable {d : Nat} {Q : mxO → mxH → Prop} {h0 : mxH} {v : Nat → Nat → Int32} {r : Nat → Int32} {np ns nl c k B : Nat} {S : Nat → Bool} {i3 : Int32} {P : Nat → Nat}
theorem H270t (C : CpN v r np ns nl) (e0 : mx_i h0 382 = r) (hc : 0 < c) (c6 : c ≤ 6) (bB : B ≤ 1000) {i M : Nat} {L : Nat → Nat} (hi : i < cN S ns) (hM : lfM S ns (i + 1) M) (hB : sO c (fun k => wR r ns (enB S ns k)) (cN S ns - i) i L = B) {i5 : Int32} (kont : ∀ h', mxG h' → mxU (fun b => b = 388 ∨ b = 390) h0 h' → (∀ t, t < c → mx_i h' 390 t = nI (B - upA L (amN (fun t => sO c (fun k => wR r ns (enB S ns k)) (cN S ns - (i + 1)) (i + 1) (upA L t (wR r ns (enB S ns i)))) c) (wR r ns (enB S ns i)) t)) → H_270_86 (d + 4) h' (nI k) i3 (nI c) i5 (nI M) (nI (amN (fun t => sO c (fun k => wR r ns (enB S ns k)) (cN S ns - (i + 1)) (i + 1) (upA L t (wR r ns (enB S ns i)))) c)) (nI (i + 1)) Q) : ∀ u t h, t + u = amN (fun t => sO c (fun k => wR r ns (enB S ns k)) (cN S ns - (i + 1)) (i + 1) (upA L t (wR r ns (enB S ns i)))) c → mxG h → mxU (fun b => b = 388 ∨ b = 390) h0 h → (∀ t, t < c → mx_i h 390 t = nI (B - L t)) → H_270_103 (d + 4) h (nI k) i3 (nI c) i5 (nI M) (nI t) (nI i) (nI (enB S ns i)) Q := by
  have n10 := C_ns10 C
  have ez := enB_ok hi
  have em : cN S ns - i = (cN S ns - (i + 1)) + 1 := by omega
  rw [em] at hB
  have st := stp_eq (w := fun k => wR r ns (enB S ns k)) hc hB
  obtain ⟨s1, s2, s3, s4⟩ := st
  generalize amN (fun t => sO c (fun k => wR r ns (enB S ns k)) (cN S ns - (i + 1)) (i + 1) (upA L t (wR r ns (enB S ns i)))) c = a0 at s1 s2 s3 s4 kont ⊢
  have wr := wR_e C ez.1
  intro u
  induction u with
  | zero =>
    intro t h ht G U rm
    have ht' : t = a0 := by omega
    subst ht'
    have er : mx_i h 382 = r := (mxU_i U (by decide)).trans e0
    have ev : V_198 (mx_i h 382) (nI (enB S ns i)) (2 : Int32) = nI (wR r ns (enB S ns i)) := by
      rw [er, show (2 : Int32) = nI 2 from rfl, v198 (by omega) 2 (by omega)]; exact wr.1
    have ok : okGs h (nI t) (V_198 (mx_i h 382) (nI (enB S ns i)) (2 : Int32)) (nI M) (nI c) ns M c (fun t => B - L t) t (wR r ns (enB S ns i)) := ⟨⟨⟨⟨v, np, nl, by rw [er]; exact C⟩, rfl, hM.1, rfl, c6⟩, rm, fun i => (by omega : B - L i ≤ 1000)⟩, rfl, s1, ev, by omega⟩
    refine tr_270_103 G ⟨vpS (by omega), ⟨(ns, M, c, (fun t => B - L t), t, wR r ns (enB S ns i)), ok⟩, fun x3 h4 u4 => ?_⟩
    have g := u4.2 _ _ _ _ _ _ ok
    rw [er] at g
    unfold giv at g
    rw [lfM_FM n10 (by omega) hM] at g
    rcases g with ⟨rfl, _, g3⟩ | ⟨rfl, g2, _⟩
    · refine ⟨fun z => absurd z (by decide), fun _ => ?_⟩
      rw [nI_1]
      refine kont h4 (mxU_G u4.1 G) (mxU_tr U u4.1) (fun t' ht' => ?_)
      rw [g3 t' ht']
      congr 1
      unfold suB upA
      dsimp only
      by_cases q : t' = t
      · rw [if_pos q, if_pos q]; omega
      · rw [if_neg q, if_neg q]
    · exact absurd s3 g2
  | succ u ih =>
    intro t h ht G U rm
    have er : mx_i h 382 = r := (mxU_i U (by decide)).trans e0
    have ev : V_198 (mx_i h 382) (nI (enB S ns i)) (2 : Int32) = nI (wR r ns (enB S ns i)) := by
      rw [er, show (2 : Int32) = nI 2 from rfl, v198 (by omega) 2 (by omega)]; exact wr.1
    have ok : okGs h (nI t) (V_198 (mx_i h 382) (nI (enB S ns i)) (2 : Int32)) (nI M) (nI c) ns M c (fun t => B - L t) t (wR r ns (enB S ns i)) := ⟨⟨⟨⟨v, np, nl, by rw [er]; exact C⟩, rfl, hM.1, rfl, c6⟩, rm, fun i => (by omega : B - L i ≤ 1000)⟩, rfl, by omega, ev, by omega⟩
    refine tr_270_103 G ⟨vpS (by omega), ⟨(ns, M, c, (fun t => B - L t), t, wR r ns (enB S ns i)), ok⟩, fun x3 h4 u4 => ?_⟩
    have g := u4.2 _ _ _ _ _ _ ok
    rw [er] at g
    unfold giv at g
    rw [lfM_FM n10 (by omega) hM] at g
    rcases g with ⟨_, g2, _⟩ | ⟨rfl, _, g3⟩
    · exact absurd g2 (s4 t (by omega))
    · refine ⟨fun _ => ?_, fun z => absurd rfl z⟩
      rw [nI_1]
      exact ih (t + 1) h4 (by omega) (mxU_G u4.1 G) (mxU_tr U u4.1) g3
theorem H270w (C : CpN v r np ns nl) (e0 : mx_i h0 382 = r) (hc : 0 < c) (c6 : c ≤ 6) (bB : B ≤ 1000) (hk : k < cN S ns) (fin : ∀ h', mxU (fun b => b = 388 ∨ b = 390) h0 h' → Q (.inl (some (.int (V_269 h' i3 (nI (P k)))))) h') : ∀ j i h (L gv : Nat → Nat) (M : Nat) (i8 : Int32), i + j = k + 1 → mxG h → mxU (fun b => b = 388 ∨ b = 390) h0 h → (∀ t, t < c → mx_i h 390 t = nI (B - L t)) → sO c (fun k => wR r ns (enB S ns k)) (cN S ns - i) i L = B → gp c (fun k => wR r ns (enB S ns k)) (cN S ns - i) i L gv = P → lfM S ns i M → (0 < i → i8 = nI (P (i - 1))) → H_270_86 (d + 4) h (nI k) i3 (nI c) (orS ns S) (nI M) i8 (nI i) Q := by
  have n10 := C_ns10 C
  have ml := cN_le (p := S) ns
  intro j
  induction j with
  | zero =>
    intro i h L gv M i8 hi G U rm hB hP hM h8
    have e8 := h8 (by omega)
    rw [show i - 1 = k by omega] at e8
    refine tr_270_86 G ⟨fun _ => by rw [e8]; exact fin h U, fun q => absurd (nI_lt (by omega) (by omega)) q⟩
  | succ j ih =>
    intro i h L gv M i8 hi G U rm hB hP hM h8
    have him : i < cN S ns := by omega
    have ez := enB_ok him
    have bb : ∀ z, z < ns → bt (orS ns S) z = S z := fun z hz => btS (by omega) hz
    have ek : V_269 h (orS ns S) (nI i) = nI (enB S ns i) := by
      rw [kth_en (N := ns) (by omega) (by rw [cN_cg bb]; exact him), enB_cg bb]
    refine tr_270_86 G ⟨fun q => ?_, fun _ => ?_⟩
    · rw [nI_lt_iff (by omega) (by omega)] at q; omega
    · rw [ek, one_shl (by omega), nI_dif hM.1]
      refine H270t (h0 := h0) C e0 hc c6 bB him (lfM_s n10 him hM) hB (fun h' G' U' r' => ?_) _ 0 h (Nat.zero_add _) G U rm
      have em : cN S ns - i = (cN S ns - (i + 1)) + 1 := by omega
      rw [em] at hB hP
      have s2 := (stp_eq (w := fun k => wR r ns (enB S ns k)) hc hB).2.1
      refine ih (i + 1) h' _ (setN gv i (amN (fun t => sO c (fun k => wR r ns (enB S ns k)) (cN S ns - (i + 1)) (i + 1) (upA L t (wR r ns (enB S ns i)))) c)) _ _ (by omega) G' U' r' s2 hP (lfM_s n10 him hM) (fun _ => ?_)
      have pe : P i = amN (fun t => sO c (fun k => wR r ns (enB S ns k)) (cN S ns - (i + 1)) (i + 1) (upA L t (wR r ns (enB S ns i)))) c := by
        rw [← hP]
        show gp c _ (cN S ns - (i + 1)) (i + 1) _ (setN gv i _) i = _
        rw [gp_low (by omega)]
        unfold setN
        rw [if_pos rfl]
      rw [show i + 1 - 1 = i by omega, pe]
end
