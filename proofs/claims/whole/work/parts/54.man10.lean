/-! SPECS by hand, 10: the reference's figures; the class's words, sums -/
theorem nI_sb {a b : Nat} (h : b ≤ a) : nI a - nI b = nI (a - b) := by
  obtain ⟨j, rfl⟩ : ∃ j, a = b + j := ⟨a - b, by omega⟩
  rw [← nI_add, show b + j - b = j by omega]
  grind
def goodN (T : Nat → Int32) (n p : Nat) (lo hi : Int32) : Prop := sk T n p < rn isDg T n (sk T n p) ∧ rn isDg T n (sk T n p) ≤ sk T n p + 3 ∧ ¬ dgs T (sk T n p) (rn isDg T n (sk T n p)) < lo ∧ ¬ hi < dgs T (sk T n p) (rn isDg T n (sk T n p))
def numN (T : Nat → Int32) (n p : Nat) : Int32 := dgs T (sk T n p) (rn isDg T n (sk T n p))
def endN (T : Nat → Int32) (n p : Nat) : Nat := rn isDg T n (sk T n p)
def p215 (lo hi : Int32) (h : mxH) (x : Int32) (h1 : mxH) : Prop := mxK h h1 ∧ (¬ mx_i h 381 12 = -1 → x = 0 ∧ h1 = h) ∧ (mx_i h 381 12 = -1 → ∀ T n p, Rd h T n p → (goodN T n p lo hi ∧ x = numN T n p ∧ h1 = mx_wi h 381 11 (nI (endN T n p))) ∨ (¬ goodN T n p lo hi ∧ ∃ q, sk T n p ≤ q ∧ q ≤ n ∧ h1 = mx_wi (mx_wi h 381 11 (nI q)) 381 12 (nI (sk T n p))))
theorem v191D {r : Nat → Int32} {x : Int32} : V_191 r x 48 57 = if isDg x = true then 1 else 0 := by
  unfold V_191 isDg
  by_cases a : x < 48
  · rw [if_pos a, if_neg (fun z => (of_decide_eq_true z).1 a)]
  · rw [if_neg a]
    by_cases b : 57 < x
    · rw [if_pos b, if_neg (fun z => (of_decide_eq_true z).2 b)]
    · rw [if_neg b, if_pos (decide_eq_true ⟨a, b⟩)]
theorem H215 {d n b : Nat} {h : mxH} {T : Nat → Int32} {Q : mxO → mxH → Prop} {i1 i2 : Int32} (G : mxG h) (R : Rd h T n b) (hf : mx_i h 381 12 = -1) (k1 : b < rn isDg T n b ∧ rn isDg T n b ≤ b + 3 ∧ ¬ dgs T b (rn isDg T n b) < i1 ∧ ¬ i2 < dgs T b (rn isDg T n b) → Q (.inl (some (.int (dgs T b (rn isDg T n b))))) (mx_wi h 381 11 (nI (rn isDg T n b)))) (k0 : ∀ v q, b ≤ q → q ≤ n → ¬ (b < rn isDg T n b ∧ rn isDg T n b ≤ b + 3 ∧ ¬ dgs T b (rn isDg T n b) < i1 ∧ ¬ i2 < dgs T b (rn isDg T n b)) → Q (.inl (some (.int v))) (mx_wi (mx_wi h 381 11 (nI q)) 381 12 (nI b))) : ∀ z, b ≤ z → z ≤ b + 4 → z ≤ rn isDg T n b → H_215_11 (d + 3) (mx_wi h 381 11 (nI z)) i1 i2 (nI b) (dgs T b z) Q := by
  have hn := R.1
  have hle : rn isDg T n b ≤ n := rn_le R.2.1
  have w : ∀ z, W_213 (mx_wi h 381 11 (nI z)) (nI b) = mx_wi (mx_wi h 381 11 (nI z)) 381 12 (nI b) := by
    intro z
    unfold W_213
    rw [wi_nj (by decide), if_pos hf]
  have ex : ∀ z, b ≤ z → z ≤ n → (z = rn isDg T n b ∨ (z = b + 4 ∧ z ≤ rn isDg T n b)) → (((mx_i (mx_wi h 381 11 (nI z)) 381 11) = (nI b) → (∀ h3, h3 = W_213 (mx_wi h 381 11 (nI z)) (nI b) → Q (.inl (some (.int (dgs T b z)))) h3)) ∧ (¬ (mx_i (mx_wi h 381 11 (nI z)) 381 11) = (nI b) → ((3 < ((mx_i (mx_wi h 381 11 (nI z)) 381 11) - (nI b)) → (∀ h8, h8 = W_213 (mx_wi h 381 11 (nI z)) (nI b) → Q (.inl (some (.int (dgs T b z)))) h8)) ∧ (¬ 3 < ((mx_i (mx_wi h 381 11 (nI z)) 381 11) - (nI b)) → (((dgs T b z) < i1 → (∀ h13, h13 = W_213 (mx_wi h 381 11 (nI z)) (nI b) → Q (.inl (some (.int (dgs T b z)))) h13)) ∧ (¬ (dgs T b z) < i1 → ((i2 < (dgs T b z) → (∀ h18, h18 = W_213 (mx_wi h 381 11 (nI z)) (nI b) → Q (.inl (some (.int (dgs T b z)))) h18)) ∧ (¬ i2 < (dgs T b z) → Q (.inl (some (.int (dgs T b z)))) (mx_wi h 381 11 (nI z)))))))))) := by
    intro z hz hzn hx
    rw [wi_at rfl rfl, nI_sb hz, w]
    have t3 : (3 : Int32) < nI (z - b) ↔ 3 < z - b := nI_ltI (a := 3) (by decide) (by omega)
    have te : nI z = nI b ↔ z = b := nI_eq (by omega) (by omega)
    refine ⟨fun c h3 e3 => ?_, fun c => ⟨fun c2 h3 e3 => ?_, fun c2 => ⟨fun c3 h3 e3 => ?_, fun c3 => ⟨fun c4 h3 e3 => ?_, fun c4 => ?_⟩⟩⟩⟩
    · rw [e3]; exact k0 _ z hz hzn (fun y => by have := te.mp c; have := y.1; omega)
    · rw [e3]; exact k0 _ z hz hzn (fun y => by have := t3.mp c2; have := y.2.1; omega)
    · rw [e3]; exact k0 _ z hz hzn (fun y => by
        have a : ¬ 3 < z - b := fun q => c2 (t3.mpr q)
        have : z = rn isDg T n b := by omega
        rw [← this] at y
        exact y.2.2.1 c3)
    · rw [e3]; exact k0 _ z hz hzn (fun y => by
        have a : ¬ 3 < z - b := fun q => c2 (t3.mpr q)
        have : z = rn isDg T n b := by omega
        rw [← this] at y
        exact y.2.2.2 c4)
    · have a : ¬ 3 < z - b := fun q => c2 (t3.mpr q)
      have a2 : ¬ z = b := fun q => c (te.mpr q)
      have e : z = rn isDg T n b := by omega
      rw [e] at c3 c4 ⊢
      exact k1 ⟨by omega, by omega, c3, c4⟩
  intro z
  have go : ∀ j z, j = n - z → b ≤ z → z ≤ b + 4 → z ≤ rn isDg T n b → H_215_11 (d + 3) (mx_wi h 381 11 (nI z)) i1 i2 (nI b) (dgs T b z) Q := by
    intro j
    induction j with
    | zero =>
      intro z hj h1 h2 h3
      have Rz := Rd_at R (q := z) (by omega)
      refine tr_215_11 (mxG_wi G) ⟨fun c => ?_, fun _ => ex z h1 (by omega) (.inl ?_)⟩
      · rw [Rd_lt Rz] at c; omega
      · omega
    | succ j ih =>
      intro z hj h1 h2 h3
      have hz : z < n := by omega
      have Rz := Rd_at R (q := z) (by omega)
      have ea := Rz.2.2.2.1
      have t3 : (3 : Int32) < nI (z - b) ↔ 3 < z - b := nI_ltI (a := 3) (by decide) (by omega)
      refine tr_215_11 (mxG_wi G) ⟨fun _ => ⟨?_, fun c => ?_, fun c => ⟨fun c2 => ?_, fun c2 h65 e65 => ?_⟩⟩, fun c => absurd ((Rd_lt Rz).mpr hz) c⟩
      · rw [ea]; exact Rd_ix Rz hz
      · rw [ea, v191D, Rd_209 Rz hz] at c
        have c : ¬ isDg (T z) = true := fun y => by rw [if_pos y] at c; exact absurd c (by decide)
        refine ex z h1 (by omega) (.inl ?_)
        have := rn_n (c := isDg) (T := T) (n := n) (p := z) (fun y => c y.2)
        rw [rn_mid z h1 h3] at this
        exact this.symm
      · rw [ea, nI_sb h1] at c2
        have := t3.mp c2
        exact ex z h1 (by omega) (.inr ⟨by omega, h3⟩)
      · rw [ea, v191D, Rd_209 Rz hz] at c
        have c : isDg (T z) = true := Decidable.byContradiction (fun y => c (by rw [if_neg y]))
        rw [ea, nI_sb h1] at c2
        have c2 : ¬ 3 < z - b := fun q => c2 (t3.mpr q)
        rw [e65, wi_wi, ea, Rd_209 Rz hz, nI_1]
        have i := ih (z + 1) (by omega) (by omega) (by omega) (by
          rw [← rn_mid z h1 h3, rn_y hz c]; exact rn_ge _)
        rw [dgs_s h1] at i
        exact i
  exact go _ z rfl
theorem sp_215 {d : Nat} {h : mxH} {Q : mxO → mxH → Prop} {i1 i2 : Int32} (G : mxG h) (ok : okT h) (k : ∀ x h1, p215 i1 i2 h x h1 → Q (.inl (some (.int x))) h1) : mx_wp (d + 3) 215 0 (mx_fr 215 [.ref 381, .int i1, .int i2]) [] h Q := by
  obtain ⟨T, n, p, R⟩ := ok
  refine tr_215_0 G ⟨fun c => ⟨⟨T, n, p, R⟩, fun x3 h4 u => ?_⟩, fun c => k 0 h ⟨mxK_rfl, fun _ => ⟨rfl, rfl⟩, fun e => absurd e c⟩⟩
  obtain ⟨e4, ex⟩ := u.2 T n p R
  have R3 : Rd h4 T n (sk T n p) := by rw [e4]; exact Rd_at R (rn_le R.2.1)
  have hf : mx_i h4 381 12 = -1 := by rw [e4, wi_nj (by decide)]; exact c
  have z := H215 (d := d) (Q := Q) (i1 := i1) (i2 := i2) (mxK_G u.1 G) R3 hf (fun y => k _ _ ⟨mxK_tr u.1 mxK_wi, fun q => absurd c q, fun _ T' n' p' R' => .inl ?_⟩) (fun v q h1 h2 y => k _ _ ⟨mxK_tr u.1 (mxK_tr mxK_wi mxK_wi), fun q => absurd c q, fun _ T' n' p' R' => .inr ?_⟩) (sk T n p) (Nat.le_refl _) (by omega) (rn_ge _)
  · rw [wi_id R3.2.2.2.1, dgs_0] at z
    rw [ex]; exact z
  · obtain ⟨e1, e2, e3⟩ := Rd_uniq R R'
    rw [e1, e2, e3]
    refine ⟨y, rfl, ?_⟩
    rw [e4, wi_wi]
    rfl
  · obtain ⟨e1, e2, e3⟩ := Rd_uniq R R'
    rw [e1, e2, e3]
    refine ⟨y, q, h1, h2, ?_⟩
    rw [e4, wi_wi]
/-- the word at a place of the tape -/
def p91 (i1 i2 : Int32) (h : mxH) (x : Nat) : Prop := (x = 0 ∨ (3 ≤ x ∧ x < 29)) ∧ ∀ k, k < 26 → (x = 3 + k ↔ (nI (mxSl (31 + 2 * k)) = i2 ∧ V_92 h (30 + 2 * k) i1 = 1))
theorem v92_01 {h : mxH} {s : Nat} {i : Int32} : V_92 h s i = 0 ∨ V_92 h s i = 1 := by
  unfold V_92
  split
  · exact .inr rfl
  · exact .inl rfl
/-- the codes of a law that is being read -/
def Co (h : mxH) (b : Nat) (o : List Int32) : Prop := mx_i h b 2 = nI o.length ∧ ∀ i, i < o.length → mx_i h (b + 4) i = o.getD i 0
theorem Co_c {h : mxH} {b : Nat} {o : List Int32} (C : Co h b o) (hl : o.length ≤ 400) : cB (mx_i h b 2) 400 := ⟨_, hl, C.1⟩
theorem Co_add {h h1 : mxH} {b : Nat} {o : List Int32} {v : Int32} (C : Co h b o) (hl : o.length < 400) (u : p23 b v h h1) : Co h1 b (o ++ [v]) := by
  obtain ⟨u1, u2, u3⟩ := u
  obtain ⟨a, e⟩ := u3 _ hl C.1
  refine ⟨by rw [a, List.length_append]; rfl, fun i hi => ?_⟩
  rw [e]
  rw [List.length_append] at hi
  have hi : i < o.length + 1 := hi
  by_cases z : i = o.length
  · rw [if_pos z, z, List.getD_eq_getElem?_getD, List.getElem?_append_right (Nat.le_refl _), Nat.sub_self]
    rfl
  · rw [if_neg z, C.2 i (by omega), List.getD_eq_getElem?_getD, List.getD_eq_getElem?_getD, List.getElem?_append_left (by omega)]
/-- what reading leaves: all but the cursor and the codes -/
def fr1 (b : Nat) (h h1 : mxH) : Prop := mxU (fun c => c = 101 ∨ c = b ∨ c = b + 4) h h1 ∧ (∀ j, j ≠ 3 → mx_i h1 101 j = mx_i h 101 j) ∧ (b ≠ 101 → ∀ j, j ≠ 2 → mx_i h1 b j = mx_i h b j)
theorem fr1_rfl {b : Nat} {h : mxH} : fr1 b h h := ⟨mxU_rfl, fun _ _ => rfl, fun _ _ _ => rfl⟩
theorem fr1_tr {b : Nat} {h h1 h2 : mxH} (u : fr1 b h h1) (w : fr1 b h1 h2) : fr1 b h h2 := ⟨mxU_tr u.1 w.1, fun j hj => (w.2.1 j hj).trans (u.2.1 j hj), fun hb j hj => (w.2.2 hb j hj).trans (u.2.2 hb j hj)⟩
theorem fr1_mv {b : Nat} {h h1 : mxH} (hb : b ≠ 101) (u : mvC h h1) : fr1 b h h1 := by
  obtain ⟨v, rfl⟩ := u
  exact ⟨mxU_wi (.inl rfl), fun j hj => wi_nj hj, fun _ j _ => by rw [wi_ne hb]⟩
theorem fr1_23 {b : Nat} {h h1 : mxH} {v : Int32} (hb : 101 < b) (u : p23 b v h h1) : fr1 b h h1 := ⟨mxU_mono (fun c hc => .inr hc) u.1, fun j _ => by rw [mxU_i u.1 (by omega)], fun _ => u.2.1⟩
theorem Co_mv {b : Nat} {h h1 : mxH} {o : List Int32} (hb : 101 < b) (u : mvC h h1) (C : Co h b o) : Co h1 b o := by
  obtain ⟨v, rfl⟩ := u
  unfold Co
  rw [wi_ne (by omega), wi_ne (by omega)]
  exact C
/-- reading goes on: the tokens lie where they were -/
theorem Cl_U {h h1 : mxH} {T : Nat → Int32} {n p : Nat} {P : Nat → Prop} (u : mxU P h h1) (hp : ∀ c, 101 ≤ c → c ≤ 106 → ¬ P c) (C : Cl h T n p) : Cl h1 T n p := by
  obtain ⟨⟨x1, x2, x3, x4⟩, m, t, hm, ht, e3, eb, A⟩ := C
  refine ⟨⟨x1, x2, x3, fun k hk => ?_⟩, m, t, hm, ht, ?_, eb, fun s hs => ?_⟩
  · rw [mxU_i u (hp 102 (by omega) (by omega))]; exact x4 k hk
  · rw [mxU_i u (hp 101 (by omega) (by omega))]; exact e3
  · have a := A s hs
    unfold Tk1 Wd1 at a ⊢
    rw [mxU_i u (hp 103 (by omega) (by omega)), mxU_i u (hp 104 (by omega) (by omega)), mxU_i u (hp 105 (by omega) (by omega)), mxU_r u]
    exact a
theorem mxT3 {b : Nat} (h : (mxT b).1 = 3) : 150 < b := (by decide +kernel : ∀ b : Fin 400, (mxT b).1 = 3 → 150 < b.val) ⟨b, by have := mxT_lt h; omega⟩ h
theorem Cl_23 {b : Nat} {h h1 : mxH} {v : Int32} {T : Nat → Int32} {n p : Nat} (hb : 150 < b) (u : p23 b v h h1) (C : Cl h T n p) : Cl h1 T n p := Cl_U u.1 (fun c h1 h2 => by omega) C
/-- reading has come to q with these codes more, or has failed at e -/
def outC (b : Nat) (T : Nat → Int32) (n : Nat) (o : List Int32) (r : PR) (x : Int32) (h1 : mxH) : Prop := match r with
  | .inl e => x = 0 ∧ ∃ p, Cl h1 T n p ∧ sk T n p = e
  | .inr (s, q) => x = 1 ∧ Cl h1 T n q ∧ Co h1 b (o ++ s)
def p36 (b : Nat) (h : mxH) (x : Int32) (h1 : mxH) : Prop := fr1 b h h1 ∧ ∀ T n p o, Cl h T n p → p ≤ n → Co h b o → o.length ≤ p → outC b T n o (pSm T n p) x h1
theorem Cl_sk {h : mxH} {T : Nat → Int32} {n p : Nat} (C : Cl h T n p) : Cl h T n (sk T n p) := by
  obtain ⟨X, m, t, hm, ht, e3, eb, A⟩ := C
  exact ⟨X, m, t, hm, ht, e3, by rw [eb]; exact (rn_idem p).symm, A⟩
theorem Cl_n {h : mxH} {T : Nat → Int32} {n p : Nat} (C : Cl h T n p) : n ≤ 400 := C.1.1
/-- a part has been taken, or none is there -/
theorem part_c {h h4 h34 : mxH} {x3 x33 : Int32} {T : Nat → Int32} {n p : Nat} (C : Cl h T n p) (u3 : p100 0 999 h x3 h4) : (¬ x3 = -1 ∧ ∃ q, pPt T n p = .inr (x3, q) ∧ Cl h4 T n q) ∨ (x3 = -1 ∧ h4 = h ∧ (∀ x33 h34, p101 h4 x33 h34 → (¬ x33 = -1 ∧ ∃ q, pPt T n p = .inr (x33, q) ∧ Cl h34 T n q) ∨ (x33 = -1 ∧ h34 = h ∧ pPt T n p = .inl (sk T n p)))) := by
  have kW : ∀ k, 19 ≤ k → k < 26 → isW T n k (sk T n p) = true → pW T n (sk T n p) = .inr (nI (981 + k), sk T n p + wl k) := by
    intro k h1 h2 w
    have no : ∀ j, j < 26 → j ≠ k → ¬ isW T n j (sk T n p) = true := fun j hj hne w2 => hne (isW_uniq hj h2 w2 w)
    have : k = 19 ∨ k = 20 ∨ k = 21 ∨ k = 22 ∨ k = 23 ∨ k = 24 ∨ k = 25 := by omega
    unfold pW
    rcases this with rfl | rfl | rfl | rfl | rfl | rfl | rfl
    · rw [if_pos w]; rfl
    · rw [if_neg (no 19 (by decide) (by decide)), if_pos w]; rfl
    · rw [if_neg (no 19 (by decide) (by decide)), if_neg (no 20 (by decide) (by decide)), if_pos w]; rfl
    · rw [if_neg (no 19 (by decide) (by decide)), if_neg (no 20 (by decide) (by decide)), if_neg (no 21 (by decide) (by decide)), if_pos w]; rfl
    · rw [if_neg (no 19 (by decide) (by decide)), if_neg (no 20 (by decide) (by decide)), if_neg (no 21 (by decide) (by decide)), if_neg (no 22 (by decide) (by decide)), if_pos w]; rfl
    · rw [if_neg (no 19 (by decide) (by decide)), if_neg (no 20 (by decide) (by decide)), if_neg (no 21 (by decide) (by decide)), if_neg (no 22 (by decide) (by decide)), if_neg (no 23 (by decide) (by decide)), if_pos w]; rfl
    · rw [if_neg (no 19 (by decide) (by decide)), if_neg (no 20 (by decide) (by decide)), if_neg (no 21 (by decide) (by decide)), if_neg (no 22 (by decide) (by decide)), if_neg (no 23 (by decide) (by decide)), if_neg (no 24 (by decide) (by decide)), if_pos w]; rfl
  rcases u3.2 T n p C with ⟨a1, a2, a3, a4, a5, a6, a7⟩ | ⟨a1, a2, a3⟩
  · refine .inl ⟨a6, _, ?_, a7⟩
    unfold pPt
    rw [if_pos a1, if_pos a2, a5]
  · refine .inr ⟨a2, a3, fun x33 h34 u => ?_⟩
    subst a3
    -- digits: too many
    by_cases c : sk T n p < rn isDg T n (sk T n p)
    · have g : ∀ i, i < rn isDg T n (sk T n p) - sk T n p → isDg (T (sk T n p + i)) = true := fun i hi => (rn_in (c := isDg) (T := T) (n := n) (sk T n p) (sk T n p + i) (by omega) (by omega)).2
      have d0 := g 0 (by omega)
      have c2 : ¬ rn isDg T n (sk T n p) ≤ sk T n p + 3 := by
        intro c2
        obtain ⟨v, hv, e⟩ := dgs_nI _ (by omega) g
        rw [Nat.add_sub_cancel' (by omega)] at e
        have : 10 ^ (rn isDg T n (sk T n p) - sk T n p) ≤ 10 ^ 3 := Nat.pow_le_pow_right (by decide) (by omega)
        refine a1 ⟨c, c2, ?_, ?_⟩
        · rw [e]; exact nI_pos (by omega)
        · rw [e]; exact fun y => absurd ((nI_ltI (a := 999) (by decide) (by omega)).mp y) (by omega)
      rcases u.2 T n p C with ⟨k, h1, h2, w, -⟩ | ⟨-, b2, b3⟩
      · have := (isW_in h2 w).2.1
        exfalso
        have l := of_decide_eq_true this
        have dd := of_decide_eq_true d0
        have l1 := l.1
        have d2 := dd.2
        rw [Nat.add_zero] at d2
        grind
      · refine .inr ⟨b2, b3, ?_⟩
        unfold pPt
        rw [if_pos c, if_neg c2]
    · have e : pPt T n p = pW T n (sk T n p) := by unfold pPt; rw [if_neg c]
      rw [e]
      rcases u.2 T n p C with ⟨k, h1, h2, w, b1, b2⟩ | ⟨b1, b2, b3⟩
      · refine .inl ⟨by rw [b1]; exact nI_ne1 (by omega), _, ?_, b2⟩
        rw [kW k h1 h2 w, b1]; rfl
      · refine .inr ⟨b2, b3, ?_⟩
        unfold pW
        rw [if_neg (b1 19 (by decide) (by decide)), if_neg (b1 20 (by decide) (by decide)), if_neg (b1 21 (by decide) (by decide)), if_neg (b1 22 (by decide) (by decide)), if_neg (b1 23 (by decide) (by decide)), if_neg (b1 24 (by decide) (by decide)), if_neg (b1 25 (by decide) (by decide))]
theorem H91 {d b s : Nat} {h : mxH} {Q : mxO → mxH → Prop} (G : mxG h) (hb : b ≤ 400) (hs : s ≤ 400) (hl : cB (mx_i h 101 1) 400) (k : ∀ x, p91 (nI b) (nI s) h x → Q (.inl (some (.ref x))) h) : ∀ j, j ≤ 26 → (∀ i, i < 26 - j → ¬ (nI (mxSl (31 + 2 * i)) = nI s ∧ V_92 h (30 + 2 * i) (nI b) = 1)) → H_91_2 (d + 5) h (nI b) (nI s) (nI (26 - j)) Q := by
  intro j
  induction j with
  | zero =>
    intro _ hno
    refine tr_91_2 G ⟨fun c => absurd c (by decide), fun _ => k 0 ⟨.inl rfl, fun q hq => ⟨fun e => by omega, fun e => absurd e (hno q (by omega))⟩⟩⟩
  | succ j ih =>
    intro hj hno
    obtain ⟨q, eq⟩ : ∃ q, 26 - (j + 1) = q := ⟨_, rfl⟩
    have hq : q < 26 := by omega
    have e2 : 2 * (3 + (nI (26 - (j + 1))).toNatClampNeg) + 24 = 30 + 2 * q := by rw [eq, nI_clamp (by omega)]; omega
    have nxt : ¬ (nI (mxSl (31 + 2 * q)) = nI s ∧ V_92 h (30 + 2 * q) (nI b) = 1) → H_91_2 (d + 5) h (nI b) (nI s) (nI (26 - (j + 1)) + 1) Q := by
      intro z
      have := ih (by omega) (fun i hi => ?_)
      · rw [nI_1, show 26 - (j + 1) + 1 = 26 - j by omega]; exact this
      · by_cases y : i < 26 - (j + 1)
        · exact hno i y
        · rw [show i = q by omega]; exact z
    refine tr_91_2 G ⟨fun _ => ⟨?_, ?_, ?_, ?_, ?_, nb0, fun c => ⟨⟨b, hb, rfl⟩, hl, fun c2 => ?_, fun c2 => ?_⟩, fun c => ?_⟩, fun c => absurd ?_ c⟩
    · rw [eq]; exact vp_in_nI hq (by decide)
    · rw [eq, nI_clamp (by omega)]; omega
    · rw [e2]; exact (st_ob hq).1
    · rw [e2]; exact (st_ob hq).2.1
    · rw [e2]; exact (st_ob hq).2.2
    · rw [e2] at c2
      exact nxt (fun y => by rw [y.2] at c2; exact absurd c2 (by decide))
    · rw [e2] at c2 c
      rw [v307] at c
      have c2 := v92_01.resolve_left c2
      have := k (3 + q) ⟨.inr ⟨by omega, by omega⟩, fun q' hq' => ⟨fun e => ?_, fun e => ?_⟩⟩
      · rw [eq, nI_clamp (by omega)]; exact this
      · obtain rfl : q = q' := by omega
        exact ⟨c, c2⟩
      · -- two words at one place are one
        have l : mxSl (31 + 2 * q) = mxSl (31 + 2 * q') := by
          have s1 := (sb_all q hq).1.2
          have s2 := (sb_all q' hq').1.2
          exact (nI_eq (by omega) (by omega)).mp (c.trans e.1.symm)
        have x1 : ∀ i, i < mxSl (31 + 2 * q) → V_87 h (nI b + nI i) = mxSb (31 + 2 * q) i := by
          have z := c2
          unfold V_92 at z
          rw [show 30 + 2 * q + 1 = 31 + 2 * q by omega] at z
          exact Decidable.byContradiction (fun y => by rw [if_neg y] at z; exact absurd z (by decide))
        have x2 : ∀ i, i < mxSl (31 + 2 * q') → V_87 h (nI b + nI i) = mxSb (31 + 2 * q') i := by
          have z := e.2
          unfold V_92 at z
          rw [show 30 + 2 * q' + 1 = 31 + 2 * q' by omega] at z
          exact Decidable.byContradiction (fun y => by rw [if_neg y] at z; exact absurd z (by decide))
        rw [sb_inj q hq q' hq' l (fun i hi => (x1 i hi).symm.trans (x2 i (l ▸ hi)))]
    · rw [e2] at c
      rw [v307] at c
      exact nxt (fun y => c y.1)
    · rw [eq]; exact nI_lt hq (by decide)
theorem sp_91 {d : Nat} {h : mxH} {Q : mxO → mxH → Prop} {i1 i2 : Int32} (G : mxG h) (x0 : cB i1 400) (x1 : cB i2 400) (x2 : cB (mx_i h 101 1) 400) (k : ∀ x h1, (h1 = h ∧ p91 i1 i2 h x) → Q (.inl (some (.ref x))) h1) : mx_wp (d + 5) 91 0 (mx_fr 91 [.ref 101, .int i1, .int i2]) [] h Q := by
  obtain ⟨b, hb, rfl⟩ := x0
  obtain ⟨s, hs, rfl⟩ := x1
  exact tr_91_0 G (H91 G hb hs x2 (fun x hx => k x h ⟨rfl, hx⟩) 26 (Nat.le_refl _) (fun i hi => by omega))
theorem pSl_s {T : Nat → Int32} {n : Nat} (f : Nat) (s : List Int32) (q : Nat) : pSl T n (f + 1) s q = if sgn T n 43 q = true then (match pPt T n (sk T n q + 1) with
    | .inl e => some (.inl e)
    | .inr (c, q2) => pSl T n f (s ++ [c, 1010]) q2) else some (.inr (s, sk T n q)) := rfl
/-- a sum -/
theorem R36 {d b n : Nat} {T : Nat → Int32} {Q : mxO → mxH → Prop} (hVb : (mxT b).1 = 3) {o : List Int32} {h0 : mxH} : ∀ (g r p : Nat) (s : List Int32) (h : mxH) (R : PR), 1 ≤ r → 2 * r ≤ p → p ≤ n → mxG h → Cl h T n p → Co h b (o ++ s) → (o ++ s).length + 1 ≤ p → fr1 b h0 h → (match pPt T n p with
    | .inl e => some (.inl e)
    | .inr (c, q) => pSl T n g (s ++ [c, 1010]) q) = some R → (∀ x h1, fr1 b h0 h1 → outC b T n o R x h1 → Q (.inl (some (.int x))) h1) → H_36_2 (d + 2) h b (nI r) Q := by
  have hb := mxT3 hVb
  intro g
  induction g with
  | zero =>
    intro r p s h R hr hrp hpn G C O hol F hR k
    have hn := Cl_n C
    match hp : pPt T n p with
    | .inr (c, q) => rw [hp] at hR; cases hR
    | .inl e =>
      rw [hp] at hR
      cases hR
      refine tr_36_2 G hVb ⟨fun _ => ⟨⟨T, n, p, C⟩, fun x3 h4 u3 => ?_⟩, fun c => absurd (show nI r < 400 from nI_lt (b := 400) (by omega) (by decide)) c⟩
      rcases part_c (h34 := h) (x33 := 0) C u3 with ⟨a1, q, a2, a3⟩ | ⟨a1, a2, a3⟩
      · rw [hp] at a2; cases a2
      · subst a2
        refine ⟨fun _ => ⟨⟨T, n, p, C⟩, fun x33 h34 u => ?_⟩, fun c => absurd a1 c⟩
        rcases a3 x33 h34 u with ⟨b1, q, b2, b3⟩ | ⟨b1, b2, b3⟩
        · rw [hp] at b2; cases b2
        · subst b2
          rw [hp] at b3
          cases b3
          exact ⟨fun _ => k _ _ F ⟨rfl, p, C, rfl⟩, fun c => absurd b1 c⟩
  | succ g ih =>
    intro r p s h R hr hrp hpn G C O hol F hR k
    have hn := Cl_n C
    -- behind a part
    have go : ∀ (h4 : mxH) (x3 : Int32) (q : Nat), mxG h4 → pPt T n p = .inr (x3, q) → Cl h4 T n q → Co h4 b (o ++ s) → fr1 b h0 h4 → (cB (mx_i h4 b 2) 400 ∧ (∀ (h11 : mxH), p23 b x3 h4 h11 → ((0 < nI r → (cB (mx_i h11 b 2) 400 ∧ (∀ (h23 : mxH), p23 b (1010 : Int32) h11 h23 → (okC h23 ∧ (∀ (x27 : Int32) (h28 : mxH), p98 (43 : Int32) h23 x27 h28 → ((x27 = 0 → Q (.inl (some (.int 1))) h28) ∧ (¬ x27 = 0 → H_36_2 (d + 2) h28 b (nI r + 1) Q))))))) ∧ (¬ 0 < nI r → (okC h11 ∧ (∀ (x16 : Int32) (h17 : mxH), p98 (43 : Int32) h11 x16 h17 → ((x16 = 0 → Q (.inl (some (.int 1))) h17) ∧ (¬ x16 = 0 → H_36_2 (d + 2) h17 b (nI r + 1) Q)))))))) := by
      intro h4 x3 q G4 hp C4 O4 F4
      have pq := pPt_pr hpn hp
      have gp := sk_ge (T := T) (n := n) p
      have hR : pSl T n (g + 1) (s ++ [x3, 1010]) q = some R := by rw [hp] at hR; exact hR
      refine ⟨Co_c O4 (by omega), fun h11 u11 => ⟨fun _ => ?_, fun c => absurd (nI_lt (a := 0) (by omega) (by omega)) c⟩⟩
      have O11 := Co_add O4 (by omega) u11
      have C11 := Cl_23 hb u11 C4
      have F11 := fr1_tr F4 (fr1_23 (by omega) u11)
      have l11 : (o ++ s ++ [x3]).length = (o ++ s).length + 1 := by simp [Nat.add_assoc]
      refine ⟨Co_c O11 (by omega), fun h23 u23 => ?_⟩
      have O23 := Co_add O11 (by omega) u23
      have C23 := Cl_23 hb u23 C11
      have F23 := fr1_tr F11 (fr1_23 (by omega) u23)
      have eo : o ++ s ++ [x3] ++ [1010] = o ++ (s ++ [x3, 1010]) := by simp
      rw [eo] at O23
      have l23 : (o ++ (s ++ [x3, 1010])).length = (o ++ s).length + 2 := by simp [Nat.add_assoc]
      have G23 := mxU_G u23.1 (mxU_G u11.1 G4)
      refine ⟨⟨T, n, q, C23⟩, fun x27 h28 u28 => ?_⟩
      have G28 := mxK_G (mvC_K u28.1) G23
      have F28 := fr1_tr F23 (fr1_mv (by omega) u28.1)
      have O28 := Co_mv (by omega) u28.1 O23
      rw [pSl_s] at hR
      rcases u28.2 T n q C23 (by unfold isSg; decide) with ⟨z1, z2, z3, z4⟩ | ⟨z1, z2, z3⟩
      · have sg : sgn T n 43 q = true := decide_eq_true ⟨z1, z2⟩
        rw [if_pos sg] at hR
        refine ⟨fun c => absurd (z3.symm.trans c) (by decide), fun _ => ?_⟩
        have gq := sk_ge (T := T) (n := n) q
        rw [nI_1]
        exact ih (r + 1) (sk T n q + 1) _ h28 R (by omega) (by omega) (by omega) G28 z4 O28 (by omega) F28 hR k
      · have sg : ¬ sgn T n 43 q = true := fun y => z1 (of_decide_eq_true y)
        rw [if_neg sg] at hR
        cases hR
        refine ⟨fun _ => k _ _ F28 ⟨rfl, ?_, O28⟩, fun c => absurd z2 c⟩
        rw [z3]; exact Cl_sk C23
    refine tr_36_2 G hVb ⟨fun _ => ⟨⟨T, n, p, C⟩, fun x3 h4 u3 => ?_⟩, fun c => absurd (show nI r < 400 from nI_lt (b := 400) (by omega) (by decide)) c⟩
    rcases part_c (h34 := h) (x33 := 0) C u3 with ⟨a1, q, a2, a3⟩ | ⟨a1, a2, a3⟩
    · exact ⟨fun c => absurd c a1, fun _ => ⟨fun c => absurd c a1, fun _ => go h4 x3 q (mxK_G (mvC_K u3.1) G) a2 a3 (Co_mv (by omega) u3.1 O) (fr1_tr F (fr1_mv (by omega) u3.1))⟩⟩
    · subst a2
      refine ⟨fun _ => ⟨⟨T, n, p, C⟩, fun x33 h34 u => ?_⟩, fun c => absurd a1 c⟩
      rcases a3 x33 h34 u with ⟨b1, q, b2, b3⟩ | ⟨b1, b2, b3⟩
      · exact ⟨fun c => absurd c b1, fun _ => go h34 x33 q (mxK_G (mvC_K u.1) G) b2 b3 (Co_mv (by omega) u.1 O) (fr1_tr F (fr1_mv (by omega) u.1))⟩
      · subst b2
        rw [b3] at hR
        cases hR
        exact ⟨fun _ => k _ _ F ⟨rfl, p, C, rfl⟩, fun c => absurd b1 c⟩
/-- what holds for each of several ways to see a state, holds for all -/
theorem wp_all {α : Type} {P : α → Prop} {Qa : α → mxO → mxH → Prop} {d y i : Nat} {ls : mxLs} {st : List Value} {h : mxH} (hx : ∃ a, P a) (H : ∀ a, P a → mx_wp d y i ls st h (Qa a)) : mx_wp d y i ls st h (fun o h' => ∀ a, P a → Qa a o h') := by
  obtain ⟨a0, p0⟩ := hx
  obtain ⟨n0, o0, h0, e0, -⟩ := H a0 p0
  refine ⟨n0, o0, h0, e0, fun a pa => ?_⟩
  obtain ⟨n1, o1, h1, e1, q1⟩ := H a pa
  have x0 := mx_mono (Nat.le_max_left n0 n1) e0
  have x1 := mx_mono (Nat.le_max_right n0 n1) e1
  rw [x0] at x1
  obtain ⟨rfl, rfl⟩ := Prod.mk.inj (Option.some.inj x1)
  exact q1
theorem all_mut {α : Type} {P : α → Prop} {F : mxH → Prop} {R : α → Int32 → mxH → Prop} {Q : mxO → mxH → Prop} {d y : Nat} {ls : mxLs} {h : mxH} (hx : ∃ a, P a) (H : ∀ a, P a → mx_wp d y 0 ls [] h (fun o h1 => ∃ x, o = .inl (some (.int x)) ∧ F h1 ∧ R a x h1)) (k : ∀ x h1, F h1 → (∀ a, P a → R a x h1) → Q (.inl (some (.int x))) h1) : mx_wp d y 0 ls [] h Q := by
  refine mx_wp.mono (fun o h1 q => ?_) (wp_all hx H)
  obtain ⟨a0, p0⟩ := hx
  obtain ⟨x, rfl, f, -⟩ := q a0 p0
  refine k x h1 f (fun a pa => ?_)
  obtain ⟨x', e, -, r⟩ := q a pa
  have : x = x' := by cases e; rfl
  subst this
  exact r
theorem all_mv {α : Type} {P : α → Prop} {F : mxH → Prop} {R : α → mxH → Prop} {Q : mxO → mxH → Prop} {d y : Nat} {ls : mxLs} {h : mxH} (hx : ∃ a, P a) (H : ∀ a, P a → mx_wp d y 0 ls [] h (fun o h1 => o = .inl none ∧ F h1 ∧ R a h1)) (k : ∀ h1, F h1 → (∀ a, P a → R a h1) → Q (.inl none) h1) : mx_wp d y 0 ls [] h Q := by
  refine mx_wp.mono (fun o h1 q => ?_) (wp_all hx H)
  obtain ⟨a0, p0⟩ := hx
  obtain ⟨rfl, f, -⟩ := q a0 p0
  exact k h1 f (fun a pa => (q a pa).2.2)
/-- how the class's reading of a law is seen: text, length, place, codes -/
abbrev vwC : Type := (Nat → Int32) × Nat × Nat × List Int32
def atC (h : mxH) (b : Nat) (a : vwC) : Prop := Cl h a.1 a.2.1 a.2.2.1 ∧ a.2.2.1 ≤ a.2.1 ∧ Co h b a.2.2.2 ∧ a.2.2.2.length ≤ a.2.2.1
theorem S36 {d b n p : Nat} {T : Nat → Int32} {o : List Int32} {h : mxH} {Q : mxO → mxH → Prop} (G : mxG h) (hVb : (mxT b).1 = 3) (C : Cl h T n p) (hpn : p ≤ n) (O : Co h b o) (hol : o.length ≤ p) (fin : ∀ x h1, fr1 b h h1 → outC b T n o (pSm T n p) x h1 → Q (.inl (some (.int x))) h1) : mx_wp (d + 2) 36 0 (mx_fr 36 [.ref 101, .ref b]) [] h Q := by
  have hb := mxT3 hVb
  have hn := Cl_n C
  refine tr_36_0 G hVb ?_
  have go : ∀ (h4 : mxH) (x3 : Int32) (q : Nat), mxG h4 → pPt T n p = .inr (x3, q) → Cl h4 T n q → Co h4 b o → fr1 b h h4 → (cB (mx_i h4 b 2) 400 ∧ (∀ (h11 : mxH), p23 b x3 h4 h11 → (((0 : Int32) < 0 → (cB (mx_i h11 b 2) 400 ∧ (∀ (h23 : mxH), p23 b (1010 : Int32) h11 h23 → (okC h23 ∧ (∀ (x27 : Int32) (h28 : mxH), p98 (43 : Int32) h23 x27 h28 → ((x27 = 0 → Q (.inl (some (.int 1))) h28) ∧ (¬ x27 = 0 → H_36_2 (d + 2) h28 b (0 + 1) Q))))))) ∧ (¬ (0 : Int32) < 0 → (okC h11 ∧ (∀ (x16 : Int32) (h17 : mxH), p98 (43 : Int32) h11 x16 h17 → ((x16 = 0 → Q (.inl (some (.int 1))) h17) ∧ (¬ x16 = 0 → H_36_2 (d + 2) h17 b (0 + 1) Q)))))))) := by
    intro h4 x3 q G4 hp C4 O4 F4
    have pq := pPt_pr hpn hp
    have gp := sk_ge (T := T) (n := n) p
    refine ⟨Co_c O4 (by omega), fun h11 u11 => ⟨fun c => absurd c (by decide), fun _ => ?_⟩⟩
    have O11 := Co_add O4 (by omega) u11
    have C11 := Cl_23 hb u11 C4
    have F11 := fr1_tr F4 (fr1_23 (by omega) u11)
    have l11 : (o ++ [x3]).length = o.length + 1 := by simp
    have G11 := mxU_G u11.1 G4
    refine ⟨⟨T, n, q, C11⟩, fun x27 h28 u28 => ?_⟩
    have G28 := mxK_G (mvC_K u28.1) G11
    have F28 := fr1_tr F11 (fr1_mv (by omega) u28.1)
    have O28 := Co_mv (by omega) u28.1 O11
    obtain ⟨R, hR⟩ := pSl_tot (T := T) 400 (s := [x3]) pq.2 (by omega)
    have eR : pSm T n p = R := by unfold pSm; rw [hp]; simp only []; rw [hR]; rfl
    rw [eR] at fin
    rw [pSl_s] at hR
    rcases u28.2 T n q C11 (by unfold isSg; decide) with ⟨z1, z2, z3, z4⟩ | ⟨z1, z2, z3⟩
    · have sg : sgn T n 43 q = true := decide_eq_true ⟨z1, z2⟩
      rw [if_pos sg] at hR
      refine ⟨fun c => absurd (z3.symm.trans c) (by decide), fun _ => ?_⟩
      have gq := sk_ge (T := T) (n := n) q
      exact R36 hVb (h0 := h) (o := o) 399 1 (sk T n q + 1) [x3] h28 R (by omega) (by omega) (by omega) G28 z4 O28 (by omega) F28 hR (fun x h1 f r => fin x h1 f r)
    · have sg : ¬ sgn T n 43 q = true := fun y => z1 (of_decide_eq_true y)
      rw [if_neg sg] at hR
      cases hR
      refine ⟨fun _ => fin _ _ F28 ⟨rfl, ?_, O28⟩, fun c => absurd z2 c⟩
      rw [z3]; exact Cl_sk C11
  refine tr_36_2 G hVb ⟨fun _ => ⟨⟨T, n, p, C⟩, fun x3 h4 u3 => ?_⟩, fun c => absurd (by decide) c⟩
  rcases part_c (h34 := h) (x33 := 0) C u3 with ⟨a1, q, a2, a3⟩ | ⟨a1, a2, a3⟩
  · exact ⟨fun c => absurd c a1, fun _ => ⟨fun c => absurd c a1, fun _ => go h4 x3 q (mxK_G (mvC_K u3.1) G) a2 a3 (Co_mv (by omega) u3.1 O) (fr1_mv (by omega) u3.1)⟩⟩
  · subst a2
    refine ⟨fun _ => ⟨⟨T, n, p, C⟩, fun x33 h34 u => ?_⟩, fun c => absurd a1 c⟩
    rcases a3 x33 h34 u with ⟨b1, q, b2, b3⟩ | ⟨b1, b2, b3⟩
    · exact ⟨fun c => absurd c b1, fun _ => go h34 x33 q (mxK_G (mvC_K u.1) G) b2 b3 (Co_mv (by omega) u.1 O) (fr1_mv (by omega) u.1)⟩
    · subst b2
      refine ⟨fun _ => fin _ _ fr1_rfl ?_, fun c => absurd b1 c⟩
      unfold pSm
      rw [b3]
      exact ⟨rfl, p, C, rfl⟩
theorem sp_36 {d b : Nat} {h : mxH} {Q : mxO → mxH → Prop} (G : mxG h) (hVb : (mxT b).1 = 3) (ok : ∃ a, atC h b a) (k : ∀ x h1, p36 b h x h1 → Q (.inl (some (.int x))) h1) : mx_wp (d + 2) 36 0 (mx_fr 36 [.ref 101, .ref b]) [] h Q := by
  refine all_mut (F := fr1 b h) (R := fun a x h1 => outC b a.1 a.2.1 a.2.2.2 (pSm a.1 a.2.1 a.2.2.1) x h1) ok (fun a pa => ?_) (fun x h1 f r => k x h1 ⟨f, fun T n p o C hp O hl => r (T, n, p, o) ⟨C, hp, O, hl⟩⟩)
  exact S36 G hVb pa.1 pa.2.1 pa.2.2.1 pa.2.2.2 (fun x h1 f r => ⟨x, rfl, f, r⟩)
/-! the stack of what is open -/
def onS (g : Nat → Int32) : List Int32 → Prop
  | [] => True
  | x :: K => g K.length = x ∧ onS g K
theorem onS_congr {g g' : Nat → Int32} : ∀ {K : List Int32}, (∀ j, j < K.length → g' j = g j) → onS g K → onS g' K := by
  intro K
  induction K with
  | nil => intro _ _; trivial
  | cons x K ih =>
    intro hj o
    exact ⟨(hj _ (by simp)).trans o.1, ih (fun j h => hj j (by simp; omega)) o.2⟩
def Lt (h : mxH) (K : List Int32) : Prop := mx_i h 107 1 = nI K.length ∧ mx_i h 107 2 = nI (dpK K) ∧ mx_i h 107 3 = nI (brK K) ∧ onS (mx_i h 108) K
def nz : List Int32 → Nat
  | [] => 0
  | x :: K => nz K + if x = 0 then 0 else 1
def okK : List Int32 → Prop
  | [] => True
  | x :: K => okK K ∧ (x = 0 ∨ x = 1009 ∨ (x = 1013 ∧ topE K) ∨ (x = 1014 ∧ topS K))
theorem okK_len : ∀ {K : List Int32}, okK K → K.length ≤ 3 * dpK K + 2 ∧ (topE K → K.length ≤ 3 * dpK K + 1) ∧ (topS K → K.length ≤ 3 * dpK K) := by
  intro K
  induction K with
  | nil => intro _; exact ⟨by decide, fun _ => by decide, fun _ => by decide⟩
  | cons x K ih =>
    intro o
    obtain ⟨o1, o2⟩ := o
    obtain ⟨a, b, c⟩ := ih o1
    have l : (x :: K).length = K.length + 1 := rfl
    rcases o2 with rfl | rfl | ⟨rfl, t⟩ | ⟨rfl, t⟩
    · have e : dpK (0 :: K) = dpK K + 1 := rfl
      rw [l, e]; exact ⟨by omega, fun _ => by omega, fun _ => by omega⟩
    · have e : dpK (1009 :: K) = dpK K + 1 := rfl
      rw [l, e]; exact ⟨by omega, fun _ => by omega, fun _ => by omega⟩
    · have e : dpK (1013 :: K) = dpK K := rfl
      have := b t
      rw [l, e]
      refine ⟨by omega, fun q => ?_, fun q => ?_⟩
      · rcases q with (q | ⟨L, q⟩) | ⟨L, q⟩
        · cases q
        · exact absurd (List.cons.inj q).1 (by decide)
        · exact absurd (List.cons.inj q).1 (by decide)
      · rcases q with q | ⟨L, q⟩
        · cases q
        · exact absurd (List.cons.inj q).1 (by decide)
    · have e : dpK (1014 :: K) = dpK K := rfl
      have := c t
      rw [l, e]
      refine ⟨by omega, fun q => by omega, fun q => ?_⟩
      rcases q with q | ⟨L, q⟩
      · cases q
      · exact absurd (List.cons.inj q).1 (by decide)
/-- the class is reading a condition -/
def SyI (h : mxH) (b : Nat) (T : Nat → Int32) (n p : Nat) (K o : List Int32) : Prop := Cl h T n p ∧ Lt h K ∧ Co h b o ∧ okK K ∧ dpK K ≤ 6 ∧ p ≤ n ∧ o.length + nz K ≤ p
theorem SyI_len {h : mxH} {b : Nat} {T : Nat → Int32} {n p : Nat} {K o : List Int32} (S : SyI h b T n p K o) : K.length ≤ 20 := by
  have := (okK_len S.2.2.2.1).1
  have := S.2.2.2.2.1
  omega
theorem V38_i {h : mxH} {x v : Int32} {K : List Int32} (L : Lt h (x :: K)) (hl : K.length ≤ 20) : V_38 h v = if x = v then 1 else 0 := by
  obtain ⟨a1, a2, a3, a4⟩ := L
  have l : (x :: K).length = K.length + 1 := rfl
  unfold V_38
  rw [a1, l, if_pos (show (0 : Int32) < nI (K.length + 1) from nI_lt (a := 0) (by omega) (by omega)), ← nI_1, show nI K.length + 1 - 1 = nI K.length by grind, nI_clamp (by omega), a4.1]
theorem V38_0 {h : mxH} {v : Int32} (L : Lt h []) : V_38 h v = 0 := by
  unfold V_38
  rw [L.1, if_neg (by decide)]
theorem V38_ob {h : mxH} {K : List Int32} (L : Lt h K) (hl : K.length ≤ 20) : ((0 < (mx_i h 107 1) → (vp_in ((mx_i h 107 1) - 1) 64 ∧ True)) ∧ (¬ 0 < (mx_i h 107 1) → True)) := by
  refine ⟨fun c => ⟨?_, trivial⟩, fun _ => trivial⟩
  rw [L.1] at c ⊢
  have := (nI_ltI (a := 0) (by omega) (by omega)).mp c
  rw [show (1 : Int32) = nI 1 from rfl, nI_sb (by omega)]
  exact vp_in_nI (by omega) (by decide)
/-- what reading a condition leaves as it was -/
def frL (b : Nat) (h h1 : mxH) : Prop := mxU (fun c => c = 101 ∨ c = 107 ∨ c = 108 ∨ c = b ∨ c = b + 4) h h1 ∧ (∀ j, j ≠ 3 → mx_i h1 101 j = mx_i h 101 j) ∧ (∀ j, j ≠ 2 → mx_i h1 b j = mx_i h b j)
theorem frL_rfl {b : Nat} {h : mxH} : frL b h h := ⟨mxU_rfl, fun _ _ => rfl, fun _ _ => rfl⟩
theorem frL_tr {b : Nat} {h h1 h2 : mxH} (u : frL b h h1) (w : frL b h1 h2) : frL b h h2 := ⟨mxU_tr u.1 w.1, fun j hj => (w.2.1 j hj).trans (u.2.1 j hj), fun j hj => (w.2.2 j hj).trans (u.2.2 j hj)⟩
theorem frL_1 {b : Nat} {h h1 : mxH} (hb : b ≠ 101) (u : fr1 b h h1) : frL b h h1 := ⟨mxU_mono (fun c hc => by rcases hc with rfl | rfl | rfl <;> simp) u.1, u.2.1, u.2.2 hb⟩
theorem frL_107 {b k : Nat} {h : mxH} {v : Int32} (hb : 150 < b) : frL b h (mx_wi h 107 k v) := ⟨mxU_wi (.inr (.inl rfl)), fun _ _ => by rw [wi_ne (by decide)], fun _ _ => by rw [wi_ne (by omega)]⟩
theorem frL_107' {b k : Nat} {h h1 : mxH} {v : Int32} (hb : 150 < b) (e : h1 = mx_wi h 107 k v) : frL b h h1 := e ▸ frL_107 hb
theorem frL_mv {b : Nat} {h h1 : mxH} (hb : 150 < b) (u : mvC h h1) : frL b h h1 := by
  obtain ⟨v, rfl⟩ := u
  exact ⟨mxU_wi (.inl rfl), fun j hj => wi_nj hj, fun _ _ => by rw [wi_ne (by omega)]⟩
theorem frL_37 {b : Nat} {h h1 : mxH} {v : Int32} (hb : 150 < b) (u : p37 v h h1) : frL b h h1 := ⟨mxU_mono (fun c hc => by rcases hc with rfl | rfl <;> simp) u.1, fun _ _ => by rw [mxU_i u.1 (by omega)], fun _ _ => by rw [mxU_i u.1 (by omega)]⟩
theorem Cl_107 {h : mxH} {k n p : Nat} {v : Int32} {T : Nat → Int32} (C : Cl h T n p) : Cl (mx_wi h 107 k v) T n p := Cl_U (P := fun c => c = 107) (mxU_wi rfl) (fun c _ _ => by omega) C
theorem Co_U {h h1 : mxH} {b : Nat} {o : List Int32} {P : Nat → Prop} (u : mxU P h h1) (hp : ¬ P b ∧ ¬ P (b + 4)) (C : Co h b o) : Co h1 b o := by
  unfold Co
  rw [mxU_i u hp.1, mxU_i u hp.2]
  exact C
/-- a not is closed -/
theorem Sy_not {h h6 h9 h12 : mxH} {b n p : Nat} {T : Nat → Int32} {K o : List Int32} (hb : 150 < b) (S : SyI h b T n p (1009 :: K) o) (u : p23 b 1009 h h6) (e9 : h9 = mx_wi h6 107 1 (mx_i h6 107 1 - 1)) (e12 : h12 = mx_wi h9 107 2 (mx_i h9 107 2 - 1)) : SyI h12 b T n p K (o ++ [1009]) ∧ frL b h h12 := by
  have hl := SyI_len S
  obtain ⟨C, ⟨l1, l2, l3, l4⟩, O, k1, k2, hp, hz⟩ := S
  have hn := Cl_n C
  have ez : nz (1009 :: K) = nz K + 1 := rfl
  have ed : dpK (1009 :: K) = dpK K + 1 := rfl
  have eb : brK (1009 :: K) = brK K := rfl
  have el : (1009 :: K : List Int32).length = K.length + 1 := rfl
  have i107 : mx_i h6 107 = mx_i h 107 := mxU_i u.1 (by omega)
  have i108 : mx_i h6 108 = mx_i h 108 := mxU_i u.1 (by omega)
  have O6 := Co_add O (by omega) u
  subst e9 e12
  refine ⟨⟨Cl_107 (Cl_107 (Cl_23 hb u C)), ⟨?_, ?_, ?_, ?_⟩, ?_, k1.1, by omega, hp, ?_⟩, frL_tr (frL_1 (by omega) (fr1_23 (by omega) u)) (frL_tr (frL_107 hb) (frL_107 hb))⟩
  · rw [wi_nj (by decide), wi_at rfl rfl, i107, l1, el, ← nI_1]; grind
  · rw [wi_at rfl rfl, wi_nj (by decide), i107, l2, ed, ← nI_1]; grind
  · rw [wi_nj (by decide), wi_nj (by decide), i107, l3, eb]
  · rw [wi_ne (by decide), wi_ne (by decide), i108]; exact l4.2
  · unfold Co
    rw [wi_ne (by omega), wi_ne (by omega), wi_ne (by omega), wi_ne (by omega)]
    exact O6
  · rw [List.length_append]; show o.length + 1 + nz K ≤ p; omega
/-- a join is closed -/
theorem Sy_join {h h6 h9 : mxH} {b n p : Nat} {T : Nat → Int32} {K o : List Int32} {x : Int32} (hb : 150 < b) (hx : x = 1013 ∨ x = 1014) (S : SyI h b T n p (x :: K) o) (u : p23 b x h h6) (e9 : h9 = mx_wi h6 107 1 (mx_i h6 107 1 - 1)) : SyI h9 b T n p K (o ++ [x]) ∧ frL b h h9 := by
  have hl := SyI_len S
  obtain ⟨C, ⟨l1, l2, l3, l4⟩, O, k1, k2, hp, hz⟩ := S
  have hn := Cl_n C
  have ez : nz (x :: K) = nz K + 1 := by rcases hx with rfl | rfl <;> rfl
  have ed : dpK (x :: K) = dpK K := by rcases hx with rfl | rfl <;> rfl
  have eb : brK (x :: K) = brK K := by rcases hx with rfl | rfl <;> rfl
  have el : (x :: K).length = K.length + 1 := rfl
  have i107 : mx_i h6 107 = mx_i h 107 := mxU_i u.1 (by omega)
  have i108 : mx_i h6 108 = mx_i h 108 := mxU_i u.1 (by omega)
  have O6 := Co_add O (by omega) u
  subst e9
  refine ⟨⟨Cl_107 (Cl_23 hb u C), ⟨?_, ?_, ?_, ?_⟩, ?_, k1.1, by omega, hp, ?_⟩, frL_tr (frL_1 (by omega) (fr1_23 (by omega) u)) (frL_107 hb)⟩
  · rw [wi_at rfl rfl, i107, l1, el, ← nI_1]; grind
  · rw [wi_nj (by decide), i107, l2, ed]
  · rw [wi_nj (by decide), i107, l3, eb]
  · rw [wi_ne (by decide), i108]; exact l4.2
  · unfold Co
    rw [wi_ne (by omega), wi_ne (by omega)]
    exact O6
  · rw [List.length_append]; show o.length + 1 + nz K ≤ p; omega
abbrev vwS : Type := (Nat → Int32) × Nat × Nat × List Int32 × List Int32
def atS (h : mxH) (b : Nat) (a : vwS) : Prop := SyI h b a.1 a.2.1 a.2.2.1 a.2.2.2.1 a.2.2.2.2
def p39 (b : Nat) (h h1 : mxH) : Prop := frL b h h1 ∧ ∀ T n p K o, SyI h b T n p K o → SyI h1 b T n p (clN K o).1 (clN K o).2
theorem H39 {d b n p : Nat} {T : Nat → Int32} {h0 : mxH} {Q : mxO → mxH → Prop} (hVb : (mxT b).1 = 3) : ∀ (K o : List Int32) (r : Nat) (h : mxH), mxG h → SyI h b T n p K o → dpK K + r ≤ 6 → frL b h0 h → (∀ h1, frL b h0 h1 → SyI h1 b T n p (clN K o).1 (clN K o).2 → Q (.inl none) h1) → H_39_2 (d + 1) h b (nI r) Q := by
  have hb := mxT3 hVb
  intro K
  induction K with
  | nil =>
    intro o r h G S hr F k
    refine trn_39_2 G hVb ⟨fun _ => ⟨V38_ob S.2.1 (by decide), fun _ => k h F S, fun c => absurd (V38_0 S.2.1) c⟩, fun _ => k h F S⟩
  | cons x K ih =>
    intro o r h G S hr F k
    have hl := SyI_len S
    have el : (x :: K).length = K.length + 1 := rfl
    have hn := Cl_n S.1
    by_cases hx : x = 1009
    · subst hx
      have ed : dpK (1009 :: K) = dpK K + 1 := rfl
      refine trn_39_2 G hVb ⟨fun _ => ⟨V38_ob S.2.1 hl, fun c => ?_, fun _ => ⟨Co_c S.2.2.1 (by have := S.2.2.2.2.2; omega), fun h6 u h9 e9 h12 e12 => ?_⟩⟩, fun c => absurd (show nI r < 6 from nI_lt (b := 6) (by omega) (by decide)) c⟩
      · rw [V38_i S.2.1 (by omega), if_pos rfl] at c
        exact absurd c (by decide)
      · obtain ⟨S2, F2⟩ := Sy_not hb S u e9 e12
        rw [nI_1]
        exact ih (o ++ [1009]) (r + 1) h12 (mxU_G F2.1 G) S2 (by omega) (frL_tr F F2) k
    · have ex : clN (x :: K) o = (x :: K, o) := by unfold clN; rw [if_neg hx]
      rw [ex] at k
      refine trn_39_2 G hVb ⟨fun _ => ⟨V38_ob S.2.1 hl, fun _ => k h F S, fun c => ?_⟩, fun _ => k h F S⟩
      rw [V38_i S.2.1 (by omega), if_neg hx] at c
      exact absurd rfl c
theorem spm_39 {d b : Nat} {h : mxH} {Q : mxO → mxH → Prop} (G : mxG h) (hVb : (mxT b).1 = 3) (ok : ∃ a, atS h b a) (k : ∀ h1, p39 b h h1 → Q (.inl none) h1) : mx_wp (d + 1) 39 0 (mx_fr 39 [.ref 107, .ref b]) [] h Q := by
  refine all_mv (F := frL b h) (R := fun a h1 => SyI h1 b a.1 a.2.1 a.2.2.1 (clN a.2.2.2.1 a.2.2.2.2).1 (clN a.2.2.2.1 a.2.2.2.2).2) ok (fun a pa => ?_) (fun h1 f r => k h1 ⟨f, fun T n p K o S => r (T, n, p, K, o) S⟩)
  exact trn_39_0 G hVb (H39 hVb _ _ 0 h G pa (by have := pa.2.2.2.2.1; omega) frL_rfl (fun h1 f r => ⟨rfl, f, r⟩))
def p40 (b : Nat) (c : Int32) (h h1 : mxH) : Prop := frL b h h1 ∧ ∀ T n p K o, SyI h b T n p K o → SyI h1 b T n p (clJ c K o).1 (clJ c K o).2
theorem H40 {d b n p : Nat} {T : Nat → Int32} {h0 : mxH} {Q : mxO → mxH → Prop} {c : Int32} (hVb : (mxT b).1 = 3) : ∀ (K o : List Int32) (r : Nat) (h : mxH), mxG h → SyI h b T n p K o → K.length + r ≤ 60 → frL b h0 h → (∀ h1, frL b h0 h1 → SyI h1 b T n p (clJ c K o).1 (clJ c K o).2 → Q (.inl none) h1) → H_40_2 (d + 1) h b c (nI r) Q := by
  have hb := mxT3 hVb
  intro K
  induction K with
  | nil =>
    intro o r h G S hr F k
    refine trn_40_2 G hVb ⟨fun _ => ⟨V38_ob S.2.1 (by decide), fun _ => ⟨fun _ => k h F S, fun c => absurd (V38_0 S.2.1) c⟩, fun c => absurd (V38_0 S.2.1) c⟩, fun _ => k h F S⟩
  | cons x K ih =>
    intro o r h G S hr F k
    have hl := SyI_len S
    have el : (x :: K).length = K.length + 1 := rfl
    have hn := Cl_n S.1
    have cc := Co_c S.2.2.1 (by have := S.2.2.2.2.2; omega)
    have v : ∀ y, V_38 h y = if x = y then 1 else 0 := fun y => V38_i S.2.1 (by omega)
    refine trn_40_2 G hVb ⟨fun _ => ⟨V38_ob S.2.1 hl, fun c1 => ⟨fun c2 => ?_, fun c2 => ⟨fun c3 => ⟨cc, fun h6 u h9 e9 => ?_⟩, fun c3 => ?_⟩⟩, fun c1 => ⟨cc, fun h6 u h9 e9 => ?_⟩⟩, fun q => absurd (show nI r < 64 from nI_lt (b := 64) (by omega) (by decide)) q⟩
    · have n1 : ¬ x = 1013 := fun y => by rw [v, if_pos y] at c1; exact absurd c1 (by decide)
      have n2 : ¬ x = 1014 := fun y => by rw [v, if_pos y] at c2; exact absurd c2 (by decide)
      have ex : clJ c (x :: K) o = (x :: K, o) := by unfold clJ; rw [if_neg (fun y => y.elim n1 (fun z => n2 z.1))]
      rw [ex] at k
      exact k h F S
    · have e2 : x = 1014 := Decidable.byContradiction (fun y => c2 (by rw [v, if_neg y]))
      subst e2
      have ex : clJ c (1014 :: K) o = clJ c K (o ++ [1014]) := if_pos (.inr ⟨rfl, c3⟩)
      rw [ex] at k
      obtain ⟨S2, F2⟩ := Sy_join hb (.inr rfl) S u e9
      rw [nI_1]
      exact ih _ (r + 1) h9 (mxU_G F2.1 G) S2 (by omega) (frL_tr F F2) k
    · have n1 : ¬ x = 1013 := fun y => by rw [v, if_pos y] at c1; exact absurd c1 (by decide)
      have ex : clJ c (x :: K) o = (x :: K, o) := by unfold clJ; rw [if_neg (fun y => y.elim n1 (fun z => c3 z.2))]
      rw [ex] at k
      exact k h F S
    · have e2 : x = 1013 := Decidable.byContradiction (fun y => c1 (by rw [v, if_neg y]))
      subst e2
      have ex : clJ c (1013 :: K) o = clJ c K (o ++ [1013]) := if_pos (.inl rfl)
      rw [ex] at k
      obtain ⟨S2, F2⟩ := Sy_join hb (.inl rfl) S u e9
      rw [nI_1]
      exact ih _ (r + 1) h9 (mxU_G F2.1 G) S2 (by omega) (frL_tr F F2) k
theorem spm_40 {d b : Nat} {h : mxH} {Q : mxO → mxH → Prop} {i2 : Int32} (G : mxG h) (hVb : (mxT b).1 = 3) (ok : ∃ a, atS h b a) (k : ∀ h1, p40 b i2 h h1 → Q (.inl none) h1) : mx_wp (d + 1) 40 0 (mx_fr 40 [.ref 107, .ref b, .int i2]) [] h Q := by
  refine all_mv (F := frL b h) (R := fun a h1 => SyI h1 b a.1 a.2.1 a.2.2.1 (clJ i2 a.2.2.2.1 a.2.2.2.2).1 (clJ i2 a.2.2.2.1 a.2.2.2.2).2) ok (fun a pa => ?_) (fun h1 f r => k h1 ⟨f, fun T n p K o S => r (T, n, p, K, o) S⟩)
  exact trn_40_0 G hVb (H40 hVb _ _ 0 h G pa (by have := SyI_len pa; omega) frL_rfl (fun h1 f r => ⟨rfl, f, r⟩))
/-- something is opened -/
theorem Sy_open {h h6 h26 h31 : mxH} {b n p p' : Nat} {T : Nat → Int32} {K o : List Int32} {v : Int32} (hb : 150 < b) (S : SyI h b T n p K o) (hd : dpK K < 6) (hv : v = 0 ∨ v = 1009) (e6 : h6 = mx_wi h 107 2 (mx_i h 107 2 + 1)) (u : mvC h6 h26) (C' : Cl h26 T n p') (hp' : p + 1 ≤ p' ∧ p' ≤ n) (w : p37 v h26 h31) : cB (mx_i h26 107 1) 63 ∧ Cl h31 T n p' ∧ (mx_i h31 107 1 = nI (v :: K).length ∧ mx_i h31 107 2 = nI (dpK (v :: K)) ∧ mx_i h31 107 3 = nI (brK K) ∧ onS (mx_i h31 108) (v :: K)) ∧ Co h31 b o ∧ okK (v :: K) ∧ dpK (v :: K) ≤ 6 ∧ p' ≤ n ∧ o.length + nz (v :: K) ≤ p' ∧ frL b h h31 := by
  have hl := SyI_len S
  obtain ⟨C, ⟨l1, l2, l3, l4⟩, O, k1, k2, hp, hz⟩ := S
  have ed : dpK (v :: K) = dpK K + 1 := by rcases hv with rfl | rfl <;> rfl
  have ez : nz (v :: K) ≤ nz K + 1 := by
    show nz K + (if v = 0 then 0 else 1) ≤ nz K + 1
    split <;> omega
  obtain ⟨q, eq⟩ := u
  have i26 : ∀ j, mx_i h26 107 j = if j = 2 then nI (dpK K + 1) else mx_i h 107 j := by
    intro j
    rw [eq, wi_ne (by decide), e6, wi_i]
    by_cases z : j = 2
    · rw [if_pos ⟨rfl, z⟩, if_pos z, l2, nI_1]
    · rw [if_neg (fun y => z y.2), if_neg z]
  have t26 : mx_i h26 107 1 = nI K.length := by rw [i26, if_neg (by decide), l1]
  have s26 : mx_i h26 108 = mx_i h 108 := by rw [eq, wi_ne (by decide), e6, wi_ne (by decide)]
  obtain ⟨w1, w2, w3⟩ := w
  obtain ⟨a, c⟩ := w3 K.length (by omega) t26
  refine ⟨⟨_, by omega, t26⟩, Cl_U w1 (fun c _ _ => by omega) C', ⟨a, ?_, ?_, ?_, ?_⟩, ?_, ⟨k1, by rcases hv with rfl | rfl <;> simp⟩, by omega, hp'.2, by omega, ?_⟩
  · rw [w2 2 (by decide), i26, if_pos rfl, ed]
  · rw [w2 3 (by decide), i26, if_neg (by decide), l3]
  · rw [c, if_pos rfl]
  · refine onS_congr (fun j hj => ?_) l4
    rw [c, if_neg (by omega), s26]
  · refine Co_U w1 ⟨by omega, by omega⟩ (Co_mv (by omega) ⟨q, eq⟩ ?_)
    rw [e6]
    unfold Co
    rw [wi_ne (by omega), wi_ne (by omega)]
    exact O
  · refine frL_tr ?_ (frL_37 hb ⟨w1, w2, w3⟩)
    rw [eq, e6]
    exact frL_tr (frL_107 hb) ⟨mxU_wi (.inl rfl), fun j hj => wi_nj hj, fun _ _ => by rw [wi_ne (by omega)]⟩
def frO (h h1 : mxH) : Prop := ∀ b, 150 < b → frL b h h1
def p34 (h : mxH) (x : Int32) (h1 : mxH) : Prop := mxU (fun c => c = 101 ∨ c = 107 ∨ c = 108) h h1 ∧ frO h h1 ∧ ∀ b T n p K o, 150 < b → SyI h b T n p K o → match opn T n (7 - dpK K) p K with
  | .inl e => x = 0 ∧ ∃ p', Cl h1 T n p' ∧ sk T n p' = e
  | .inr (p1, K1) => x = 1 ∧ SyI h1 b T n p1 K1 o
theorem V95_ob {h : mxH} {T : Nat → Int32} {n p : Nat} (C : Cl h T n p) {s : Nat} (hs : s = 0 ∨ (3 ≤ s ∧ s < 29)) : vp_in (mx_i h 101 3) 401 ∧ ((((mx_r h 106 (mx_i h 101 3).toNatClampNeg) = 0 ∨ (3 ≤ (mx_r h 106 (mx_i h 101 3).toNatClampNeg) ∧ (mx_r h 106 (mx_i h 101 3).toNatClampNeg) < 29)) ∧ (s = 0 ∨ (3 ≤ s ∧ s < 29))) ∧ True) := by
  obtain ⟨t, m, ht, hm, hn, e3, eb, ek, hl, es, hw, hW, mv⟩ := Cl_tk C
  rw [e3, nI_clamp (by omega)]
  exact ⟨vp_in_nI (by omega) (by decide), ⟨hw, hs⟩, trivial⟩
theorem H34 {d b n : Nat} {T : Nat → Int32} {h0 : mxH} {Q : mxO → mxH → Prop} (hb : 150 < b) {o : List Int32} : ∀ (j r p : Nat) (K : List Int32) (h : mxH), mxG h → SyI h b T n p K o → 7 - dpK K = j → r ≤ dpK K → mxU (fun c => c = 101 ∨ c = 107 ∨ c = 108) h0 h → frO h0 h → (∀ (x : Int32) h1, mxU (fun c => c = 101 ∨ c = 107 ∨ c = 108) h0 h1 → frO h0 h1 → (match opn T n j p K with
  | .inl e => x = 0 ∧ ∃ p', Cl h1 T n p' ∧ sk T n p' = e
  | .inr (p1, K1) => x = 1 ∧ SyI h1 b T n p1 K1 o) → Q (.inl (some (.int x))) h1) → H_34_2 (d + 2) h (nI r) Q := by
  intro j
  induction j with
  | zero => intro r p K h G S hj; have := S.2.2.2.2.1; omega
  | succ j ih =>
    intro r p K h G S hj hr U F k
    have hd6 := S.2.2.2.2.1
    have hl := SyI_len S
    have C := S.1
    have hn := Cl_n C
    have hp := S.2.2.2.2.2.1
    have gp := sk_ge (T := T) (n := n) p
    have L := S.2.1
    have v95 : V_95 h 19 = if wrd T n 16 p = true then 1 else 0 := V95_i C (k := 16) (by decide)
    have v97 : V_97 h 40 = if sk T n p < n ∧ T (sk T n p) = 40 then 1 else 0 := V97_i C (by unfold isSg; decide)
    have cd : (mx_i h 107 2 < 6) = (dpK K < 6) := by rw [L.2.1]; exact nI_lt_iff (b := 6) (by omega) (by decide)
    rw [opn_s] at k
    refine trn_34_2 G ⟨fun c => absurd ((nI_ltI (a := 6) (by decide) (by omega)).mp c) (by omega), fun _ => ⟨(V95_ob C (s := 19) (by decide)).1, (V95_ob C (s := 19) (by decide)).2, fun c => ⟨(V97_ob C).2, fun c2 => ?_, fun c2 => ⟨fun c3 h37 e37 => ⟨fun _ => ?_, fun c4 => absurd c c4⟩, fun c3 => ?_⟩⟩, fun c => ⟨fun c3 h6 e6 => ⟨fun c4 => absurd c4 c, fun _ => ?_⟩, fun c3 => ?_⟩⟩⟩
    · have w0 : ¬ wrd T n 16 p = true := fun y => by rw [v95, if_pos y] at c; exact absurd c (by decide)
      have w1 : ¬ sgn T n 40 p = true := fun y => by rw [v97, if_pos (sgn_in y)] at c2; exact absurd c2 (by decide)
      rw [if_neg w0, if_neg w1] at k
      exact k _ _ U F ⟨rfl, S⟩
    · have w0 : ¬ wrd T n 16 p = true := fun y => by rw [v95, if_pos y] at c; exact absurd c (by decide)
      have w1 : sgn T n 40 p = true := by
        apply decide_eq_true
        exact Decidable.byContradiction (fun y => c2 (by rw [v97, if_neg y]))
      rw [cd] at c3
      rw [if_neg w0, if_pos w1, if_neg (by omega)] at k
      have C37 : Cl h37 T n p := by rw [e37]; exact Cl_107 C
      refine ⟨⟨T, n, p, C37⟩, fun x42 h43 u43 => ?_⟩
      rcases u43.2 T n p C37 (by unfold isSg; decide) with ⟨z1, z2, z3, z4⟩ | ⟨z1, z2, z3⟩
      · obtain ⟨o1, -⟩ := Sy_open (v := 0) (h31 := mx_wi (mx_wi h43 108 K.length 0) 107 1 (nI (K.length + 1))) hb S c3 (.inl rfl) e37 u43.1 z4 ⟨by omega, by omega⟩ (by
          obtain ⟨q, eq⟩ := u43.1
          have t : mx_i h43 107 1 = nI K.length := by rw [eq, wi_ne (by decide), e37, wi_nj (by decide), L.1]
          refine ⟨mxU_tr (mxU_wi (.inr rfl)) (mxU_wi (.inl rfl)), fun j hj => by rw [wi_nj hj, wi_ne (by decide)], fun c hc e => ?_⟩
          have : c = K.length := (nI_eq (by omega) (by omega)).mp (e.symm.trans t)
          subst this
          refine ⟨wi_at rfl rfl, fun j => ?_⟩
          rw [wi_ne (by decide), wi_i]
          by_cases z : j = K.length
          · rw [if_pos ⟨rfl, z⟩, if_pos z]
          · rw [if_neg (fun y => z y.2), if_neg z])
        refine ⟨o1, fun h48 u48 h51 e51 => ?_⟩
        obtain ⟨-, o2, ⟨o3, o4, o5, o6⟩, o7, o8, o9, o10, o11, o12⟩ := Sy_open hb S c3 (.inl rfl) e37 u43.1 z4 ⟨by omega, by omega⟩ u48
        have S51 : SyI h51 b T n (sk T n p + 1) (0 :: K) o := by
          rw [e51]
          refine ⟨Cl_107 o2, ⟨?_, ?_, ?_, ?_⟩, ?_, o8, o9, o10, o11⟩
          · rw [wi_nj (by decide)]; exact o3
          · rw [wi_nj (by decide)]; exact o4
          · rw [wi_at rfl rfl, o5, nI_1]; rfl
          · rw [wi_ne (by decide)]; exact o6
          · unfold Co; rw [wi_ne (by omega), wi_ne (by omega)]; exact o7
        have ed : dpK (0 :: K) = dpK K + 1 := rfl
        have U51 : mxU (fun c => c = 101 ∨ c = 107 ∨ c = 108) h h51 := by
          obtain ⟨q, eq⟩ := u43.1
          rw [e51]
          refine mxU_tr (mxU_tr (mxU_tr (mxU_wi' e37 (.inr (.inl rfl))) (mxU_wi' eq (.inl rfl))) (mxU_mono (fun c hc => .inr hc) u48.1)) (mxU_wi (.inr (.inl rfl)))
        have F51 : frO h h51 := by
          intro b' hb'
          obtain ⟨q, eq⟩ := u43.1
          rw [e51]
          exact frL_tr (frL_tr (frL_tr (frL_107' hb' e37) (frL_mv hb' ⟨q, eq⟩)) (frL_37 hb' u48)) (frL_107 hb')
        rw [nI_1]
        exact ih (r + 1) _ (0 :: K) h51 (mxU_G U51 G) S51 (by omega) (by omega) (mxU_tr U U51) (fun b' hb' => frL_tr (F b' hb') (F51 b' hb')) k
      · exact absurd (sgn_in w1) z1
    · have w0 : ¬ wrd T n 16 p = true := fun y => by rw [v95, if_pos y] at c; exact absurd c (by decide)
      have w1 : sgn T n 40 p = true := by
        apply decide_eq_true
        exact Decidable.byContradiction (fun y => c2 (by rw [v97, if_neg y]))
      rw [cd] at c3
      rw [if_neg w0, if_pos w1, if_pos (by omega)] at k
      exact k _ _ U F ⟨rfl, p, C, rfl⟩
    · have w0 : wrd T n 16 p = true := Decidable.byContradiction (fun y => c (by rw [v95, if_neg y]))
      rw [cd] at c3
      rw [if_pos w0, if_neg (by omega)] at k
      have C6 : Cl h6 T n p := by rw [e6]; exact Cl_107 C
      refine ⟨⟨T, n, p, C6⟩, by omega, fun x25 h26 u26 => ?_⟩
      have wi := wrd_in (by decide) w0
      have w2 := wl_pos (k := 16) (by decide)
      rcases u26.2 T n p 16 C6 (by decide) rfl with ⟨z1, z2, z4⟩ | ⟨z1, z2, z3⟩
      · have z4 : Cl h26 T n (sk T n p + wl 16) := z4
        obtain ⟨o1, -⟩ := Sy_open (v := 1009) (h31 := mx_wi (mx_wi h26 108 K.length 1009) 107 1 (nI (K.length + 1))) hb S c3 (.inr rfl) e6 u26.1 z4 ⟨by omega, by omega⟩ (by
          obtain ⟨q, eq⟩ := u26.1
          have t : mx_i h26 107 1 = nI K.length := by rw [eq, wi_ne (by decide), e6, wi_nj (by decide), L.1]
          refine ⟨mxU_tr (mxU_wi (.inr rfl)) (mxU_wi (.inl rfl)), fun j hj => by rw [wi_nj hj, wi_ne (by decide)], fun c hc e => ?_⟩
          have : c = K.length := (nI_eq (by omega) (by omega)).mp (e.symm.trans t)
          subst this
          refine ⟨wi_at rfl rfl, fun j => ?_⟩
          rw [wi_ne (by decide), wi_i]
          by_cases z : j = K.length
          · rw [if_pos ⟨rfl, z⟩, if_pos z]
          · rw [if_neg (fun y => z y.2), if_neg z])
        refine ⟨o1, fun h31 u31 => ?_⟩
        obtain ⟨-, o2, ⟨o3, o4, o5, o6⟩, o7, o8, o9, o10, o11, o12⟩ := Sy_open hb S c3 (.inr rfl) e6 u26.1 z4 ⟨by omega, by omega⟩ u31
        have ed : dpK (1009 :: K) = dpK K + 1 := rfl
        have U31 : mxU (fun c => c = 101 ∨ c = 107 ∨ c = 108) h h31 := by
          obtain ⟨q, eq⟩ := u26.1
          exact mxU_tr (mxU_tr (mxU_wi' e6 (.inr (.inl rfl))) (mxU_wi' eq (.inl rfl))) (mxU_mono (fun c hc => .inr hc) u31.1)
        have F31 : frO h h31 := by
          intro b' hb'
          obtain ⟨q, eq⟩ := u26.1
          exact frL_tr (frL_tr (frL_107' hb' e6) (frL_mv hb' ⟨q, eq⟩)) (frL_37 hb' u31)
        rw [nI_1]
        exact ih (r + 1) _ (1009 :: K) h31 (mxU_G U31 G) ⟨o2, ⟨o3, o4, o5, o6⟩, o7, o8, o9, o10, o11⟩ (by omega) (by omega) (mxU_tr U U31) (fun b' hb' => frL_tr (F b' hb') (F31 b' hb')) k
      · exact absurd w0 z1
    · have w0 : wrd T n 16 p = true := Decidable.byContradiction (fun y => c (by rw [v95, if_neg y]))
      rw [cd] at c3
      rw [if_pos w0, if_pos (by omega)] at k
      exact k _ _ U F ⟨rfl, p, C, rfl⟩
theorem spm_34 {d : Nat} {h : mxH} {Q : mxO → mxH → Prop} (G : mxG h) (ok : ∃ b a, 150 < b ∧ atS h b a) (k : ∀ x h1, p34 h x h1 → Q (.inl (some (.int x))) h1) : mx_wp (d + 2) 34 0 (mx_fr 34 [.ref 107, .ref 101]) [] h Q := by
  obtain ⟨b0, a0, ok⟩ := ok
  refine all_mut (α := Nat × vwS) (P := fun a => 150 < a.1 ∧ atS h a.1 a.2) (F := fun h1 => mxU (fun c => c = 101 ∨ c = 107 ∨ c = 108) h h1 ∧ frO h h1) (R := fun a x h1 => match opn a.2.1 a.2.2.1 (7 - dpK a.2.2.2.2.1) a.2.2.2.1 a.2.2.2.2.1 with
    | .inl e => x = 0 ∧ ∃ p', Cl h1 a.2.1 a.2.2.1 p' ∧ sk a.2.1 a.2.2.1 p' = e
    | .inr (p1, K1) => x = 1 ∧ SyI h1 a.1 a.2.1 a.2.2.1 p1 K1 a.2.2.2.2.2) ⟨(b0, a0), ok⟩ (fun a pa => ?_) (fun x h1 f r => k x h1 ⟨f.1, f.2, fun b T n p K o hb S => r (b, T, n, p, K, o) ⟨hb, S⟩⟩)
  exact trn_34_0 G (H34 pa.1 _ 0 _ _ h G pa.2 rfl (Nat.zero_le _) mxU_rfl (fun _ _ => frL_rfl) (fun x h1 u f r => ⟨x, rfl, ⟨u, f⟩, r⟩))
/-- one token more -/
def p90 (v w : Int32) (h h1 : mxH) : Prop := mxU (fun c => c = 101 ∨ c = 103 ∨ c = 104 ∨ c = 105) h h1 ∧ (∀ j, j ≠ 2 → mx_i h1 101 j = mx_i h 101 j) ∧ ∀ c, c < 401 → mx_i h 101 2 = nI c → mx_i h1 101 2 = nI (c + 1) ∧ (∀ j, mx_i h1 103 j = if j = c then v else mx_i h 103 j) ∧ (∀ j, mx_i h1 104 j = if j = c then w else mx_i h 104 j) ∧ (∀ j, mx_i h1 105 j = if j = c then 1 else mx_i h 105 j)
theorem spm_90 {d : Nat} {h : mxH} {Q : mxO → mxH → Prop} {i1 i2 : Int32} (G : mxG h) (x0 : cB (mx_i h 101 2) 400) (k : ∀ h1, p90 i1 i2 h h1 → Q (.inl none) h1) : mx_wp d 90 0 (mx_fr 90 [.ref 101, .int i1, .int i2]) [] h Q := by
  obtain ⟨c, hc, e⟩ := x0
  have v : vp_in (mx_i h 101 2) 401 := by rw [e]; exact vp_in_nI (by omega) (by decide)
  have n1 : (101 : Nat) ≠ 103 := by decide
  have n2 : (101 : Nat) ≠ 104 := by decide
  have n3 : (101 : Nat) ≠ 105 := by decide
  refine sp_90 G ⟨fun _ => ⟨v, ?_, ?_, trivial⟩, fun _ => trivial⟩ (k _ ?_)
  · rw [wi_ne n1]; exact v
  · rw [wi_ne n2, wi_ne n1]; exact v
  · unfold W_90
    rw [wi_ne n1, wi_ne n2, wi_ne n1, wi_ne n3, wi_ne n2, wi_ne n1, e, if_pos (show nI c < 401 from nI_lt (b := 401) (by omega) (by decide)), nI_clamp (by omega), nI_1]
    refine ⟨mxU_tr (mxU_tr (mxU_tr (mxU_wi (.inr (.inl rfl))) (mxU_wi (.inr (.inr (.inl rfl))))) (mxU_wi (.inr (.inr (.inr rfl))))) (mxU_wi (.inl rfl)), fun j hj => ?_, fun c' hc' e' => ?_⟩
    · rw [wi_nj hj, wi_ne n3, wi_ne n2, wi_ne n1]
    · have : c' = c := (nI_eq (by omega) (by omega)).mp (e'.symm.trans e)
      subst this
      refine ⟨wi_at rfl rfl, fun j => ?_, fun j => ?_, fun j => ?_⟩
      · rw [wi_ne (by omega), wi_ne (by omega), wi_ne (by omega), wi_i]
        by_cases z : j = c'
        · rw [if_pos ⟨rfl, z⟩, if_pos z]
        · rw [if_neg (fun y => z y.2), if_neg z]
      · rw [wi_ne (by omega), wi_ne (by omega), wi_i, wi_ne (by omega)]
        by_cases z : j = c'
        · rw [if_pos ⟨rfl, z⟩, if_pos z]
        · rw [if_neg (fun y => z y.2), if_neg z]
      · rw [wi_ne (by omega), wi_i, wi_ne (by omega), wi_ne (by omega)]
        by_cases z : j = c'
        · rw [if_pos ⟨rfl, z⟩, if_pos z]
        · rw [if_neg (fun y => z y.2), if_neg z]
