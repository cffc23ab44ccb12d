/-! SPECS by hand, 10: the reference's figures; the class's words, sums -/
theorem nI_sb {a b : Nat} (h : b ≤ a) : nI a - nI b = nI (a - b) := by
  obtain ⟨j, rfl⟩ : ∃ j, a = b + j := ⟨a - b, by omega⟩
  rw [← nI_add, show b + j - b = j by omega]
  grind
def goodN (T : Nat → Int32) (n p : Nat) (lo hi : Int32) : Prop := sk T n p < rn isDg T n (sk T n p) ∧ rn isDg T n (sk T n p) ≤ sk T n p + 3 ∧ ¬ dgs T (sk T n p) (rn isDg T n (sk T n p)) < lo ∧ ¬ hi < dgs T (sk T n p) (rn isDg T n (sk T n p))
def numN (T : Nat → Int32) (n p : Nat) : Int32 := dgs T (sk T n p) (rn isDg T n (sk T n p))
def endN (T : Nat → Int32) (n p : Nat) : Nat := rn isDg T n (sk T n p)
def p215 (lo hi : Int32) (h : mxH) (x : Int32) (h1 : mxH) : Prop := mxK h h1 ∧ (¬ mx_i h 381 12 = -1 → x = 0 ∧ h1 = h) ∧ (mx_i h 381 12 = -1 → ∀ T n p, Rd h T n p → (goodN T n p lo hi ∧ x = numN T n p ∧ h1 = mx_wi h 381 11 (nI (endN T n p))) ∨ (¬ goodN T n p lo hi ∧ ∃ q, sk T n p ≤ q ∧ q ≤ n ∧ h1 = mx_wi (mx_wi h 381 11 (nI q)) 381 12 (nI (sk T n p))))
theorem v191D {r : Nat → Int32} {x : Int32} : V_191 r x 48 57 = if isDg x = true then 1 else 0 := by
  unfold V_191 isDg
  by_cases a : x < 48
  · rw [if_pos a, if_neg (fun z => (of_decide_eq_true z).1 a)]
  · rw [if_neg a]
    by_cases b : 57 < x
    · rw [if_pos b, if_neg (fun z => (of_decide_eq_true z).2 b)]
    · rw [if_neg b, if_pos (decide_eq_true ⟨a, b⟩)]
theorem H215 {d n b : Nat} {h : mxH} {T : Nat → Int32} {Q : mxO → mxH → Prop} {i1 i2 : Int32} (G : mxG h) (R : Rd h T n b) (hf : mx_i h 381 12 = -1) (k1 : b < rn isDg T n b ∧ rn isDg T n b ≤ b + 3 ∧ ¬ dgs T b (rn isDg T n b) < i1 ∧ ¬ i2 < dgs T b (rn isDg T n b) → Q (.inl (some (.int (dgs T b (rn isDg T n b))))) (mx_wi h 381 11 (nI (rn isDg T n b)))) (k0 : ∀ v q, b ≤ q → q ≤ n → ¬ (b < rn isDg T n b ∧ rn isDg T n b ≤ b + 3 ∧ ¬ dgs T b (rn isDg T n b) < i1 ∧ ¬ i2 < dgs T b (rn isDg T n b)) → Q (.inl (some (.int v))) (mx_wi (mx_wi h 381 11 (nI q)) 381 12 (nI b))) : ∀ z, b ≤ z → z ≤ b + 4 → z ≤ rn isDg T n b → H_215_11 (d + 3) (mx_wi h 381 11 (nI z)) i1 i2 (nI b) (dgs T b z) Q := by
  have hn := R.1
  have hle : rn isDg T n b ≤ n := rn_le R.2.1
  have w : ∀ z, W_213 (mx_wi h 381 11 (nI z)) (nI b) = mx_wi (mx_wi h 381 11 (nI z)) 381 12 (nI b) := by
    intro z
    unfold W_213
    rw [wi_nj (by decide), if_pos hf]
  have ex : ∀ z, b ≤ z → z ≤ n → (z = rn isDg T n b ∨ (z = b + 4 ∧ z ≤ rn isDg T n b)) → (((mx_i (mx_wi h 381 11 (nI z)) 381 11) = (nI b) → (∀ h3, h3 = W_213 (mx_wi h 381 11 (nI z)) (nI b) → Q (.inl (some (.int (dgs T b z)))) h3)) ∧ (¬ (mx_i (mx_wi h 381 11 (nI z)) 381 11) = (nI b) → ((3 < ((mx_i (mx_wi h 381 11 (nI z)) 381 11) - (nI b)) → (∀ h8, h8 = W_213 (mx_wi h 381 11 (nI z)) (nI b) → Q (.inl (some (.int (dgs T b z)))) h8)) ∧ (¬ 3 < ((mx_i (mx_wi h 381 11 (nI z)) 381 11) - (nI b)) → (((dgs T b z) < i1 → (∀ h13, h13 = W_213 (mx_wi h 381 11 (nI z)) (nI b) → Q (.inl (some (.int (dgs T b z)))) h13)) ∧ (¬ (dgs T b z) < i1 → ((i2 < (dgs T b z) → (∀ h18, h18 = W_213 (mx_wi h 381 11 (nI z)) (nI b) → Q (.inl (some (.int (dgs T b z)))) h18)) ∧ (¬ i2 < (dgs T b z) → Q (.inl (some (.int (dgs T b z)))) (mx_wi h 381 11 (nI z)))))))))) := by
    intro z hz hzn hx
    rw [wi_at rfl rfl, nI_sb hz, w]
    have t3 : (3 : Int32) < nI (z - b) ↔ 3 < z - b := nI_ltI (a := 3) (by decide) (by omega)
    have te : nI z = nI b ↔ z = b := nI_eq (by omega) (by omega)
    refine ⟨fun c h3 e3 => ?_, fun c => ⟨fun c2 h3 e3 => ?_, fun c2 => ⟨fun c3 h3 e3 => ?_, fun c3 => ⟨fun c4 h3 e3 => ?_, fun c4 => ?_⟩⟩⟩⟩
    · rw [e3]; exact k0 _ z hz hzn (fun y => by have := te.mp c; have := y.1; omega)
    · rw [e3]; exact k0 _ z hz hzn (fun y => by have := t3.mp c2; have := y.2.1; omega)
    · rw [e3]; exact k0 _ z hz hzn (fun y => by
        have a : ¬ 3 < z - b := fun q => c2 (t3.mpr q)
        have : z = rn isDg T n b := by omega
        rw [← this] at y
        exact y.2.2.1 c3)
    · rw [e3]; exact k0 _ z hz hzn (fun y => by
        have a : ¬ 3 < z - b := fun q => c2 (t3.mpr q)
        have : z = rn isDg T n b := by omega
        rw [← this] at y
        exact y.2.2.2 c4)
    · have a : ¬ 3 < z - b := fun q => c2 (t3.mpr q)
      have a2 : ¬ z = b := fun q => c (te.mpr q)
      have e : z = rn isDg T n b := by omega
      rw [e] at c3 c4 ⊢
      exact k1 ⟨by omega, by omega, c3, c4⟩
  intro z
  have go : ∀ j z, j = n - z → b ≤ z → z ≤ b + 4 → z ≤ rn isDg T n b → H_215_11 (d + 3) (mx_wi h 381 11 (nI z)) i1 i2 (nI b) (dgs T b z) Q := by
    intro j
    induction j with
    | zero =>
      intro z hj h1 h2 h3
      have Rz := Rd_at R (q := z) (by omega)
      refine tr_215_11 (mxG_wi G) ⟨fun c => ?_, fun _ => ex z h1 (by omega) (.inl ?_)⟩
      · rw [Rd_lt Rz] at c; omega
      · omega
    | succ j ih =>
      intro z hj h1 h2 h3
      have hz : z < n := by omega
      have Rz := Rd_at R (q := z) (by omega)
      have ea := Rz.2.2.2.1
      have t3 : (3 : Int32) < nI (z - b) ↔ 3 < z - b := nI_ltI (a := 3) (by decide) (by omega)
      refine tr_215_11 (mxG_wi G) ⟨fun _ => ⟨?_, fun c => ?_, fun c => ⟨fun c2 => ?_, fun c2 h65 e65 => ?_⟩⟩, fun c => absurd ((Rd_lt Rz).mpr hz) c⟩
      · rw [ea]; exact Rd_ix Rz hz
      · rw [ea, v191D, Rd_209 Rz hz] at c
        have c : ¬ isDg (T z) = true := fun y => by rw [if_pos y] at c; exact absurd c (by decide)
        refine ex z h1 (by omega) (.inl ?_)
        have := rn_n (c := isDg) (T := T) (n := n) (p := z) (fun y => c y.2)
        rw [rn_mid z h1 h3] at this
        exact this.symm
      · rw [ea, nI_sb h1] at c2
        have := t3.mp c2
        exact ex z h1 (by omega) (.inr ⟨by omega, h3⟩)
      · rw [ea, v191D, Rd_209 Rz hz] at c
        have c : isDg (T z) = true := Decidable.byContradiction (fun y => c (by rw [if_neg y]))
        rw [ea, nI_sb h1] at c2
        have c2 : ¬ 3 < z - b := fun q => c2 (t3.mpr q)
        rw [e65, wi_wi, ea, Rd_209 Rz hz, nI_1]
        have i := ih (z + 1) (by omega) (by omega) (by omega) (by
          rw [← rn_mid z h1 h3, rn_y hz c]; exact rn_ge _)
        rw [dgs_s h1] at i
        exact i
  exact go _ z rfl
theorem sp_215 {d : Nat} {h : mxH} {Q : mxO → mxH → Prop} {i1 i2 : Int32} (G : mxG h) (ok : okT h) (k : ∀ x h1, p215 i1 i2 h x h1 → Q (.inl (some (.int x))) h1) : mx_wp (d + 3) 215 0 (mx_fr 215 [.ref 381, .int i1, .int i2]) [] h Q := by
  obtain ⟨T, n, p, R⟩ := ok
  refine tr_215_0 G ⟨fun c => ⟨⟨T, n, p, R⟩, fun x3 h4 u => ?_⟩, fun c => k 0 h ⟨mxK_rfl, fun _ => ⟨rfl, rfl⟩, fun e => absurd e c⟩⟩
  obtain ⟨e4, ex⟩ := u.2 T n p R
  have R3 : Rd h4 T n (sk T n p) := by rw [e4]; exact Rd_at R (rn_le R.2.1)
  have hf : mx_i h4 381 12 = -1 := by rw [e4, wi_nj (by decide)]; exact c
  have z := H215 (d := d) (Q := Q) (i1 := i1) (i2 := i2) (mxK_G u.1 G) R3 hf (fun y => k _ _ ⟨mxK_tr u.1 mxK_wi, fun q => absurd c q, fun _ T' n' p' R' => .inl ?_⟩) (fun v q h1 h2 y => k _ _ ⟨mxK_tr u.1 (mxK_tr mxK_wi mxK_wi), fun q => absurd c q, fun _ T' n' p' R' => .inr ?_⟩) (sk T n p) (Nat.le_refl _) (by omega) (rn_ge _)
  · rw [wi_id R3.2.2.2.1, dgs_0] at z
    rw [ex]; exact z
  · obtain ⟨e1, e2, e3⟩ := Rd_uniq R R'
    rw [e1, e2, e3]
    refine ⟨y, rfl, ?_⟩
    rw [e4, wi_wi]
    rfl
  · obtain ⟨e1, e2, e3⟩ := Rd_uniq R R'
    rw [e1, e2, e3]
    refine ⟨y, q, h1, h2, ?_⟩
    rw [e4, wi_wi]
/-- the word at a place of the tape -/
def p91 (i1 i2 : Int32) (h : mxH) (x : Nat) : Prop := (x = 0 ∨ (3 ≤ x ∧ x < 29)) ∧ ∀ k, k < 26 → (x = 3 + k ↔ (nI (mxSl (31 + 2 * k)) = i2 ∧ V_92 h (30 + 2 * k) i1 = 1))
theorem v92_01 {h : mxH} {s : Nat} {i : Int32} : V_92 h s i = 0 ∨ V_92 h s i = 1 := by
  unfold V_92
  split
  · exact .inr rfl
  · exact .inl rfl
/-- the codes of a law that is being read -/
def Co (h : mxH) (b : Nat) (o : List Int32) : Prop := mx_i h b 2 = nI o.length ∧ ∀ i, i < o.length → mx_i h (b + 4) i = o.getD i 0
theorem Co_c {h : mxH} {b : Nat} {o : List Int32} (C : Co h b o) (hl : o.length ≤ 400) : cB (mx_i h b 2) 400 := ⟨_, hl, C.1⟩
theorem Co_add {h h1 : mxH} {b : Nat} {o : List Int32} {v : Int32} (C : Co h b o) (hl : o.length < 400) (u : p23 b v h h1) : Co h1 b (o ++ [v]) := by
  obtain ⟨u1, u2, u3⟩ := u
  obtain ⟨a, e⟩ := u3 _ hl C.1
  refine ⟨by rw [a, List.length_append]; rfl, fun i hi => ?_⟩
  rw [e]
  rw [List.length_append] at hi
  have hi : i < o.length + 1 := hi
  by_cases z : i = o.length
  · rw [if_pos z, z, List.getD_eq_getElem?_getD, List.getElem?_append_right (Nat.le_refl _), Nat.sub_self]
    rfl
  · rw [if_neg z, C.2 i (by omega), List.getD_eq_getElem?_getD, List.getD_eq_getElem?_getD, List.getElem?_append_left (by omega)]
/-- what reading leaves: all but the cursor and the codes -/
def fr1 (b : Nat) (h h1 : mxH) : Prop := mxU (fun c => c = 101 ∨ c = b ∨ c = b + 4) h h1 ∧ (∀ j, j ≠ 3 → mx_i h1 101 j = mx_i h 101 j) ∧ (b ≠ 101 → ∀ j, j ≠ 2 → mx_i h1 b j = mx_i h b j)
theorem fr1_rfl {b : Nat} {h : mxH} : fr1 b h h := ⟨mxU_rfl, fun _ _ => rfl, fun _ _ _ => rfl⟩
theorem fr1_tr {b : Nat} {h h1 h2 : mxH} (u : fr1 b h h1) (w : fr1 b h1 h2) : fr1 b h h2 := ⟨mxU_tr u.1 w.1, fun j hj => (w.2.1 j hj).trans (u.2.1 j hj), fun hb j hj => (w.2.2 hb j hj).trans (u.2.2 hb j hj)⟩
theorem fr1_mv {b : Nat} {h h1 : mxH} (hb : b ≠ 101) (u : mvC h h1) : fr1 b h h1 := by
  obtain ⟨v, rfl⟩ := u
  exact ⟨mxU_wi (.inl rfl), fun j hj => wi_nj hj, fun _ j _ => by rw [wi_ne hb]⟩
theorem fr1_23 {b : Nat} {h h1 : mxH} {v : Int32} (hb : 101 < b) (u : p23 b v h h1) : fr1 b h h1 := ⟨mxU_mono (fun c hc => .inr hc) u.1, fun j _ => by rw [mxU_i u.1 (by omega)], fun _ => u.2.1⟩
theorem Co_mv {b : Nat} {h h1 : mxH} {o : List Int32} (hb : 101 < b) (u : mvC h h1) (C : Co h b o) : Co h1 b o := by
  obtain ⟨v, rfl⟩ := u
  unfold Co
  rw [wi_ne (by omega), wi_ne (by omega)]
  exact C
/-- reading goes on: the tokens lie where they were -/
theorem Cl_U {h h1 : mxH} {T : Nat → Int32} {n p : Nat} {P : Nat → Prop} (u : mxU P h h1) (hp : ∀ c, 101 ≤ c → c ≤ 106 → ¬ P c) (C : Cl h T n p) : Cl h1 T n p := by
  obtain ⟨⟨x1, x2, x3, x4⟩, m, t, hm, ht, e3, eb, A⟩ := C
  refine ⟨⟨x1, x2, x3, fun k hk => ?_⟩, m, t, hm, ht, ?_, eb, fun s hs => ?_⟩
  · rw [mxU_i u (hp 102 (by omega) (by omega))]; exact x4 k hk
  · rw [mxU_i u (hp 101 (by omega) (by omega))]; exact e3
  · have a := A s hs
    unfold Tk1 Wd1 at a ⊢
    rw [mxU_i u (hp 103 (by omega) (by omega)), mxU_i u (hp 104 (by omega) (by omega)), mxU_i u (hp 105 (by omega) (by omega)), mxU_r u]
    exact a
theorem mxT3 {b : Nat} (h : (mxT b).1 = 3) : 150 < b := (by decide +kernel : ∀ b : Fin 400, (mxT b).1 = 3 → 150 < b.val) ⟨b, by have := mxT_lt h; omega⟩ h
theorem Cl_23 {b : Nat} {h h1 : mxH} {v : Int32} {T : Nat → Int32} {n p : Nat} (hb : 150 < b) (u : p23 b v h h1) (C : Cl h T n p) : Cl h1 T n p := Cl_U u.1 (fun c h1 h2 => by omega) C
/-- reading has come to q with these codes more, or has failed at e -/
def outC (b : Nat) (T : Nat → Int32) (n : Nat) (o : List Int32) (r : PR) (x : Int32) (h1 : mxH) : Prop := match r with
  | .inl e => x = 0 ∧ ∃ p, Cl h1 T n p ∧ sk T n p = e
  | .inr (s, q) => x = 1 ∧ Cl h1 T n q ∧ Co h1 b (o ++ s)
def p36 (b : Nat) (h : mxH) (x : Int32) (h1 : mxH) : Prop := fr1 b h h1 ∧ ∀ T n p o, Cl h T n p → p ≤ n → Co h b o → o.length ≤ p → outC b T n o (pSm T n p) x h1
theorem Cl_n {h : mxH} {T : Nat → Int32} {n p : Nat} (C : Cl h T n p) : n ≤ 400 := C.1.1
/-- a part has been taken, or none is there -/
theorem part_c {h h4 h34 : mxH} {x3 x33 : Int32} {T : Nat → Int32} {n p : Nat} (C : Cl h T n p) (u3 : p100 0 999 h x3 h4) : (¬ x3 = -1 ∧ ∃ q, pPt T n p = .inr (x3, q) ∧ Cl h4 T n q) ∨ (x3 = -1 ∧ h4 = h ∧ (∀ x33 h34, p101 h4 x33 h34 → (¬ x33 = -1 ∧ ∃ q, pPt T n p = .inr (x33, q) ∧ Cl h34 T n q) ∨ (x33 = -1 ∧ h34 = h ∧ pPt T n p = .inl (sk T n p)))) := by
  have kW : ∀ k, 19 ≤ k → k < 26 → isW T n k (sk T n p) = true → pW T n (sk T n p) = .inr (nI (981 + k), sk T n p + wl k) := by
    intro k h1 h2 w
    have no : ∀ j, j < 26 → j ≠ k → ¬ isW T n j (sk T n p) = true := fun j hj hne w2 => hne (isW_uniq hj h2 w2 w)
    have : k = 19 ∨ k = 20 ∨ k = 21 ∨ k = 22 ∨ k = 23 ∨ k = 24 ∨ k = 25 := by omega
    unfold pW
    rcases this with rfl | rfl | rfl | rfl | rfl | rfl | rfl
    · rw [if_pos w]; rfl
    · rw [if_neg (no 19 (by decide) (by decide)), if_pos w]; rfl
    · rw [if_neg (no 19 (by decide) (by decide)), if_neg (no 20 (by decide) (by decide)), if_pos w]; rfl
    · rw [if_neg (no 19 (by decide) (by decide)), if_neg (no 20 (by decide) (by decide)), if_neg (no 21 (by decide) (by decide)), if_pos w]; rfl
    · rw [if_neg (no 19 (by decide) (by decide)), if_neg (no 20 (by decide) (by decide)), if_neg (no 21 (by decide) (by decide)), if_neg (no 22 (by decide) (by decide)), if_pos w]; rfl
    · rw [if_neg (no 19 (by decide) (by decide)), if_neg (no 20 (by decide) (by decide)), if_neg (no 21 (by decide) (by decide)), if_neg (no 22 (by decide) (by decide)), if_neg (no 23 (by decide) (by decide)), if_pos w]; rfl
    · rw [if_neg (no 19 (by decide) (by decide)), if_neg (no 20 (by decide) (by decide)), if_neg (no 21 (by decide) (by decide)), if_neg (no 22 (by decide) (by decide)), if_neg (no 23 (by decide) (by decide)), if_neg (no 24 (by decide) (by decide)), if_pos w]; rfl
  rcases u3.2 T n p C with ⟨a1, a2, a3, a4, a5, a6, a7⟩ | ⟨a1, a2, a3⟩
  · refine .inl ⟨a6, _, ?_, a7⟩
    unfold pPt
    rw [if_pos a1, if_pos a2, a5]
  · refine .inr ⟨a2, a3, fun x33 h34 u => ?_⟩
    subst a3
    -- digits: too many
    by_cases c : sk T n p < rn isDg T n (sk T n p)
    · have g : ∀ i, i < rn isDg T n (sk T n p) - sk T n p → isDg (T (sk T n p + i)) = true := fun i hi => (rn_in (c := isDg) (T := T) (n := n) (sk T n p) (sk T n p + i) (by omega) (by omega)).2
      have d0 := g 0 (by omega)
      have c2 : ¬ rn isDg T n (sk T n p) ≤ sk T n p + 3 := by
        intro c2
        obtain ⟨v, hv, e⟩ := dgs_nI _ (by omega) g
        rw [Nat.add_sub_cancel' (by omega)] at e
        have : 10 ^ (rn isDg T n (sk T n p) - sk T n p) ≤ 10 ^ 3 := Nat.pow_le_pow_right (by decide) (by omega)
        refine a1 ⟨c, c2, ?_, ?_⟩
        · rw [e]; exact nI_pos (by omega)
        · rw [e]; exact fun y => absurd ((nI_ltI (a := 999) (by decide) (by omega)).mp y) (by omega)
      rcases u.2 T n p C with ⟨k, h1, h2, w, -⟩ | ⟨-, b2, b3⟩
      · have := (isW_in h2 w).2.1
        exfalso
        have l := of_decide_eq_true this
        have dd := of_decide_eq_true d0
        have l1 := l.1
        have d2 := dd.2
        rw [Nat.add_zero] at d2
        grind
      · refine .inr ⟨b2, b3, ?_⟩
        unfold pPt
        rw [if_pos c, if_neg c2]
    · have e : pPt T n p = pW T n (sk T n p) := by unfold pPt; rw [if_neg c]
      rw [e]
      rcases u.2 T n p C with ⟨k, h1, h2, w, b1, b2⟩ | ⟨b1, b2, b3⟩
      · refine .inl ⟨by rw [b1]; exact nI_ne1 (by omega), _, ?_, b2⟩
        rw [kW k h1 h2 w, b1]; rfl
      · refine .inr ⟨b2, b3, ?_⟩
        unfold pW
        rw [if_neg (b1 19 (by decide) (by decide)), if_neg (b1 20 (by decide) (by decide)), if_neg (b1 21 (by decide) (by decide)), if_neg (b1 22 (by decide) (by decide)), if_neg (b1 23 (by decide) (by decide)), if_neg (b1 24 (by decide) (by decide)), if_neg (b1 25 (by decide) (by decide))]
