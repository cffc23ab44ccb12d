/-! SHARE: canGive -/
theorem mask_ex (P : Nat → Bool) : ∃ q : Nat, q < 1024 ∧ ∀ z, z < 10 → q.testBit z = P z := by
  obtain ⟨m, hm, e⟩ := orS_nI (n := 10) (by omega) P
  refine ⟨m, hm, fun z hz => ?_⟩
  have := bt_orS (n := 10) (by omega) P (i := z) (by omega)
  rw [e, bt_nI (by omega), decide_eq_true hz, Bool.true_and] at this
  exact this
theorem bit_ex {y : Nat} (hy : y < 1024) (h : y ≠ 0) : ∃ z, z < 10 ∧ y.testBit z = true := by
  refine Classical.byContradiction (fun n => h ?_)
  apply Nat.eq_of_testBit_eq
  intro i
  rw [Nat.zero_testBit]
  by_cases c : i < 10
  · cases q : y.testBit i with
    | false => rfl
    | true => exact absurd ⟨i, c, q⟩ n
  · exact Nat.testBit_lt_two_pow (Nat.lt_of_lt_of_le hy (Nat.pow_le_pow_right (n := 2) (i := 10) (by decide) (by omega)))
/-- one more person: with a part for him, or none -/
theorem FM_s {w : Nat → Nat} {k x : Nat} {R : Nat → Nat} (hx : x < 1024) : FM w (k + 1) x.testBit R ↔ FM w k x.testBit R ∨ ∃ q, 0 < q ∧ prt q x ∧ wS w q.testBit ≤ R k ∧ FM w k (x &&& (1023 ^^^ q)).testBit R := by
  constructor
  · rintro ⟨P, h1, h2, h3⟩
    obtain ⟨q, hq, e⟩ := mask_ex P
    by_cases c : q = 0
    · refine .inl (FM_congr (fun z hz => ?_) (fun _ _ => rfl) h3)
      have := e z hz
      rw [c, Nat.zero_testBit] at this
      unfold dfB
      rw [← this]; simp
    · refine .inr ⟨q, by omega, (prt_iff hq).mpr (fun i hi w => h1 i (by rw [← e i hi]; exact w)), ?_, FM_congr (fun z hz => ?_) (fun _ _ => rfl) h3⟩
      · rw [wS_congr (P' := P) e]; exact h2
      · unfold dfB
        rw [dif_bit hz, e z hz]
  · rintro (h | ⟨q, hq, hp, h2, h3⟩)
    · refine ⟨fun _ => false, fun z hz => Bool.noConfusion hz, ?_, FM_congr (fun z hz => ?_) (fun _ _ => rfl) h⟩
      · have : wS w (fun _ => false) = 0 := rfl
        omega
      · unfold dfB; simp
    · have hq10 : q < 1024 := Nat.lt_of_le_of_lt (by rw [← hp]; exact Nat.and_le_right) hx
      refine ⟨fun z => q.testBit z && x.testBit z, fun z hz => ?_, ?_, FM_congr (fun z hz => ?_) (fun _ _ => rfl) h3⟩
      · simp only [Bool.and_eq_true] at hz; exact hz.2
      · rw [wS_congr (P' := q.testBit) (fun z hz => ?_)]
        · exact h2
        · cases c : q.testBit z with
          | false => rfl
          | true => rw [(prt_iff hq10).mp hp z hz c]; rfl
      · unfold dfB
        rw [dif_bit hz]
        dsimp only
        cases q.testBit z <;> cases x.testBit z <;> rfl
def Tb (w : Nat → Nat) (R : Nat → Nat) (h : mxH) (k y : Nat) : Prop := (mx_i h 388 y = 1 ∧ FM w k y.testBit R) ∨ (mx_i h 388 y = 0 ∧ ¬ FM w k y.testBit R)
section
variable {d : Nat} {Q : mxO → mxH → Prop} {h0 : mxH} {v : Nat → Nat → Int32} {r : Nat → Int32} {np ns nl all c : Nat} {R : Nat → Nat}
theorem H268p (C : CpN v r np ns nl) (e0 : mx_i h0 382 = r) (eR : ∀ i, i < c → mx_i h0 390 i = nI (R i)) (bR : ∀ i, R i ≤ 1000) (ha : all < 1024) {k x : Nat} (hk : k < c) (hc6 : c ≤ 6) (hx : x < 1024) (nk : ¬ FM (wR r ns) k x.testBit R) (kont : ∀ h', mxU (fun b => b = 388) h0 h' → (∀ y, y ≠ x → mx_i h' 388 y = mx_i h0 388 y) → Tb (wR r ns) R h' (k + 1) x → H_268_23 (d + 2) h' (nI all) (nI c) (nI k) (nI x + (-1)) Q) (old : ∀ y, y < x → prt y x → Tb (wR r ns) R h0 k y) : ∀ p, p ≤ x → prt p x → ∀ h, mxG h → mxU (fun b => b = 388) h0 h → (∀ y, y ≠ x → mx_i h 388 y = mx_i h0 388 y) → ((mx_i h 388 x = 1 ∧ FM (wR r ns) (k + 1) x.testBit R) ∨ (mx_i h 388 x = 0 ∧ ∀ q, prt q x → p < q → ¬ (wS (wR r ns) q.testBit ≤ R k ∧ FM (wR r ns) k (x &&& (1023 ^^^ q)).testBit R))) → H_268_40 (d + 2) h (nI all) (nI c) (nI k) (nI x) (nI p) Q := by
  intro p
  induction p using Nat.strongRecOn with
  | _ p ih =>
    intro hp pp h G U fr st
    have er : mx_i h 382 = r := (mxU_i U (by decide)).trans e0
    have eRm : mx_i h 390 = mx_i h0 390 := mxU_i U (by decide)
    rcases st with ⟨s1, s2⟩ | ⟨s1, s2⟩
    · -- found already
      have fin := kont h U fr (.inl ⟨s1, s2⟩)
      refine tr_268_40 G ⟨fun _ => ⟨vp_in_nI (by omega) (by decide), fun q => ?_, fun _ => fin⟩, fun _ => fin⟩
      rw [nI_clamp (by omega), s1] at q
      exact absurd q (by decide)
    · by_cases p0 : p = 0
      · subst p0
        refine tr_268_40 G ⟨fun q => absurd q (by decide), fun _ => kont h U fr (.inr ⟨s1, fun f => ?_⟩)⟩
        rcases (FM_s hx).mp f with f | ⟨q, q0, q1, q2, q3⟩
        · exact nk f
        · exact s2 q q1 q0 ⟨q2, q3⟩
      · have hp10 : p < 1024 := by omega
        have dl := dif_lt hx (by omega) pp
        have wt := wt_e C hp10
        have e5 : nI x &&& (nI p ^^^ (-1)) = nI (x &&& (1023 ^^^ p)) := nI_dif hx
        have sub : prt (x &&& (1023 ^^^ p)) x := by
          unfold prt
          rw [Nat.and_assoc, Nat.and_comm (1023 ^^^ p) x, ← Nat.and_assoc, Nat.and_self]
        refine tr_268_40 G ⟨fun _ => ⟨vp_in_nI (by omega) (by decide), fun _ => ⟨by rw [er]; exact C_rs C, vp_in_nI (by omega) (by decide), ⟨fun _ => trivial, fun _ => ⟨by rw [e5]; exact vp_in_nI (by omega) (by decide), trivial⟩⟩, fun v6 e6 h7 e7 => ?_⟩, fun q => absurd (by rw [nI_clamp (by omega)]; exact s1) q⟩, fun q => absurd (nI_lt (a := 0) (by omega) (by omega)) q⟩
        rw [er, wt.1, e5, nI_clamp (by omega), nI_clamp (by omega), eRm, eR k hk, fr _ (by omega)] at e6
        have b1 := bR k
        rw [nI_clamp (by omega)] at e7
        have pn : (nI p - 1) &&& nI x = nI ((p - 1) &&& x) := by
          rw [show (1 : Int32) = nI 1 from rfl, pk_sub (by omega), nI_and]
        rw [pn]
        have U7 : mxU (fun b => b = 388) h0 h7 := mxU_tr U (mxU_wi' e7 rfl)
        have G7 : mxG h7 := by rw [e7]; exact mxG_wi G
        have f7 : ∀ y, y ≠ x → mx_i h7 388 y = mx_i h0 388 y := fun y hy => by rw [e7, wi_nj hy]; exact fr y hy
        have x7 : mx_i h7 388 x = v6 := by rw [e7, wi_at rfl rfl]
        have le1 : (p - 1) &&& x ≤ p - 1 := Nat.and_le_left
        have np' : prt ((p - 1) &&& x) x := by unfold prt; rw [Nat.and_assoc, Nat.and_self]
        refine ih ((p - 1) &&& x) (by omega) (by omega) np' h7 G7 U7 f7 ?_
        rw [x7]
        have ob := old _ dl sub
        have nx : ¬ (wS (wR r ns) p.testBit ≤ R k ∧ FM (wR r ns) k (x &&& (1023 ^^^ p)).testBit R) → ∀ q, prt q x → (p - 1) &&& x < q → ¬ (wS (wR r ns) q.testBit ≤ R k ∧ FM (wR r ns) k (x &&& (1023 ^^^ q)).testBit R) := by
          intro n q hq lt
          by_cases c1 : p < q
          · exact s2 q hq c1
          · by_cases c2 : q = p
            · rw [c2]; exact n
            · exact absurd (sbm_le p x q (by omega) pp hq (by omega)) (by omega)
        by_cases cw : R k < wS (wR r ns) p.testBit
        · rw [if_pos (nI_lt cw (by omega))] at e6
          exact .inr ⟨e6, nx (fun z => by omega)⟩
        · rw [if_neg (by rw [nI_lt_iff (by omega) (by omega)]; exact cw)] at e6
          rcases ob with ⟨o1, o2⟩ | ⟨o1, o2⟩
          · exact .inl ⟨by rw [e6, o1], (FM_s hx).mpr (.inr ⟨p, by omega, pp, by omega, o2⟩)⟩
          · exact .inr ⟨by rw [e6, o1], nx (fun z => o2 z.2)⟩
theorem H268s (C : CpN v r np ns nl) (e0 : mx_i h0 382 = r) (eR : ∀ i, i < c → mx_i h0 390 i = nI (R i)) (bR : ∀ i, R i ≤ 1000) (ha : all < 1024) {k : Nat} (hk : k < c) (hc6 : c ≤ 6) (kont : ∀ h', mxG h' → mxU (fun b => b = 388) h0 h' → (∀ y, prt y all → Tb (wR r ns) R h' (k + 1) y) → H_268_18 (d + 2) h' (nI all) (nI c) (nI (k + 1)) Q) : ∀ x h, x ≤ all + 1 → mxG h → mxU (fun b => b = 388) h0 h → (∀ y, prt y all → (y < x → Tb (wR r ns) R h k y) ∧ (x ≤ y → Tb (wR r ns) R h (k + 1) y)) → H_268_23 (d + 2) h (nI all) (nI c) (nI k) (nI x + (-1)) Q := by
  intro x
  induction x with
  | zero =>
    intro h _ G U st
    refine tr_268_23 G ⟨fun _ => ?_, fun q => absurd (by decide) q⟩
    rw [nI_1]
    exact kont h G U (fun y hy => (st y hy).2 (Nat.zero_le _))
  | succ x ih =>
    intro h hx G U st
    have ex : nI (x + 1) + (-1) = nI x := by
      rw [← nI_1]; grind
    have x10 : x < 1024 := by omega
    have er : mx_i h 382 = r := (mxU_i U (by decide)).trans e0
    rw [ex]
    have skip : Tb (wR r ns) R h (k + 1) x ∨ ¬ prt x all → H_268_23 (d + 2) h (nI all) (nI c) (nI k) (nI x + (-1)) Q := by
      intro z
      refine ih h (by omega) G U (fun y hy => ⟨fun l => (st y hy).1 (by omega), fun l => ?_⟩)
      by_cases q : y = x
      · rcases z with z | z
        · rw [q]; exact z
        · exact absurd (q ▸ hy) z
      · exact (st y hy).2 (by omega)
    refine tr_268_23 G ⟨fun q => absurd q (nI_pos (by omega)), fun _ => ⟨fun q => ⟨vp_in_nI (by omega) (by decide), fun o => ?_, fun o => ?_⟩, fun q => skip (.inr (fun z => q ((nI_prt x10).mpr z)))⟩⟩
    · rw [nI_clamp (by omega)] at o
      have hp := (nI_prt x10).mp q
      rcases (st x hp).1 (by omega) with ⟨_, f⟩ | ⟨f, _⟩
      · exact skip (.inl (.inl ⟨o, (FM_s x10).mpr (.inl f)⟩))
      · rw [f] at o; exact absurd o (by decide)
    · rw [nI_clamp (by omega)] at o
      have hp := (nI_prt x10).mp q
      have t0 := (st x hp).1 (by omega)
      rcases t0 with ⟨f, _⟩ | ⟨f, nf⟩
      · exact absurd f o
      · refine H268p (h0 := h) C er (fun i hi => by rw [mxU_i U (by decide)]; exact eR i hi) bR ha hk hc6 x10 nf (fun h' U' f' t' => ?_) (fun y hy py => ?_) x (Nat.le_refl _) (Nat.and_self x) h G mxU_rfl (fun _ _ => rfl) (.inr ⟨f, fun q hq lt => ?_⟩)
        · refine ih h' (by omega) (mxU_G U' G) (mxU_tr U U') (fun y hy => ⟨fun l => ?_, fun l => ?_⟩)
          · unfold Tb
            rw [f' y (by omega)]
            exact (st y hy).1 (by omega)
          · by_cases q : y = x
            · rw [q]; exact t'
            · unfold Tb
              rw [f' y q]
              exact (st y hy).2 (by omega)
        · have : prt y all := by
            unfold prt at hp py ⊢
            rw [← py, Nat.and_assoc, hp]
          exact (st y this).1 (by omega)
        · have : q ≤ x := by rw [← hq]; exact Nat.and_le_right
          omega
theorem H268 (C : CpN v r np ns nl) (e0 : mx_i h0 382 = r) (eR : ∀ i, i < c → mx_i h0 390 i = nI (R i)) (bR : ∀ i, R i ≤ 1000) (ha : all < 1024) (hc : c ≤ 6) (G0 : mxG h0) (fin : ∀ x h1, mxU (fun b => b = 388) h0 h1 → ((x = 1 ∧ FM (wR r ns) c all.testBit R) ∨ (x = 0 ∧ ¬ FM (wR r ns) c all.testBit R)) → Q (.inl (some (.int x))) h1) : mx_wp (d + 2) 268 0 (mx_fr 268 [.ref 381, .int (nI all), .int (nI c)]) [] h0 Q := by
  refine tr_268_0 G0 ?_
  have L18 : ∀ j k h, k + j = c → mxG h → mxU (fun b => b = 388) h0 h → (∀ y, prt y all → Tb (wR r ns) R h k y) → H_268_18 (d + 2) h (nI all) (nI c) (nI k) Q := by
    intro j
    induction j with
    | zero =>
      intro k h hk G U st
      have hk' : k = c := by omega
      subst hk'
      refine tr_268_18 G ⟨fun q => absurd q Int32.lt_irrefl, fun _ => ⟨vp_in_nI (by omega) (by decide), fun v3 e3 => fin v3 h U ?_⟩⟩
      rw [nI_clamp (by omega)] at e3
      rcases st all (Nat.and_self all) with ⟨a, b⟩ | ⟨a, b⟩
      · rw [a, if_pos rfl] at e3; exact .inl ⟨e3, b⟩
      · rw [a, if_neg (by decide)] at e3; exact .inr ⟨e3, b⟩
    | succ j ih =>
      intro k h hk G U st
      refine tr_268_18 G ⟨fun _ => ?_, fun q => absurd (nI_lt (by omega) (by omega)) q⟩
      have := H268s (d := d) (Q := Q) (c := c) (h0 := h) C ((mxU_i U (by decide)).trans e0) (fun i hi => by rw [mxU_i U (by decide)]; exact eR i hi) bR ha (k := k) (by omega) hc (fun h' G' U' t' => ih (k + 1) h' (by omega) G' (mxU_tr U U') t') (all + 1) h (Nat.le_refl _) G mxU_rfl (fun y hy => ⟨fun _ => st y hy, fun l => by
        have : y ≤ all := by rw [← hy]; exact Nat.and_le_right
        omega⟩)
      have ex : nI (all + 1) + (-1) = nI all := by rw [← nI_1]; grind
      rw [ex] at this
      exact this
  have L2 : ∀ j i h, i + j = 1024 → mxG h → mxU (fun b => b = 388) h0 h → (∀ y, y < i → mx_i h 388 y = if y = 0 then 1 else 0) → H_268_2 (d + 2) h (nI all) (nI c) (nI i) Q := by
    intro j
    induction j with
    | zero =>
      intro i h hi G U t
      have hi' : i = 1024 := by omega
      subst hi'
      refine tr_268_2 G ⟨fun q => absurd q (by decide), fun _ => L18 c 0 h (by omega) G U (fun y hy => ?_)⟩
      have hy2 : y ≤ all := by rw [← hy]; exact Nat.and_le_right
      have := t y (by omega)
      by_cases q : y = 0
      · rw [if_pos q] at this
        exact .inl ⟨this, fun z _ => by rw [q]; exact Nat.zero_testBit z⟩
      · rw [if_neg q] at this
        obtain ⟨z, hz, hb⟩ := bit_ex (by omega) q
        exact .inr ⟨this, fun f => by have := f z hz; rw [hb] at this; exact absurd this (by decide)⟩
    | succ j ih =>
      intro i h hi G U t
      refine tr_268_2 G ⟨fun _ v2 e2 => ⟨vp_in_nI (by omega) (by decide), fun h4 e4 => ?_⟩, fun q => absurd (nI_lt (b := 1024) (by omega) (by omega)) q⟩
      rw [nI_clamp (by omega)] at e4
      rw [nI_1]
      refine ih (i + 1) h4 (by omega) (by rw [e4]; exact mxG_wi G) (mxU_tr U (mxU_wi' e4 rfl)) (fun y hy => ?_)
      rw [e4, wi_row]
      by_cases q : y = i
      · rw [if_pos q, e2]
        by_cases q0 : i = 0
        · rw [q0, if_pos (by rfl), if_pos (by omega)]
        · rw [if_neg (show ¬ nI i = 0 from fun z => q0 ((nI_eq (b := 0) (by omega) (by decide)).mp z)), if_neg (by omega)]
      · rw [if_neg q]; exact t y (by omega)
  exact L2 1024 0 h0 (by omega) G0 mxU_rfl (fun y hy => by omega)
end
