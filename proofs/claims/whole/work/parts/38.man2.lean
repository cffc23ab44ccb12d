/-! SPECS by hand, 2 -/
section
variable {d : Nat} {h : mxH} {Q : mxO → mxH → Prop} {a : Nat} {i1 i2 : Int32}
def V_82 (h : mxH) (a : Nat) (i1 : Int32) : Int32 := fo (fun _ s => fo (F_82_11 h a 0) (mx_i h (a + 7) 0).toNatClampNeg s) 6 ((1 : Int32) <<< (i1 &&& 31))
theorem sp_82 (G : mxG h) (hVa : (mxT a).1 = 9) (hcb : cB (mx_i h (a + 7) 0) 10) (k : Q (.inl (some (.int (V_82 h a i1)))) h) : mx_wp d 82 0 (mx_fr 82 [.ref (a + 7), .int i1]) [] h Q := by
  obtain ⟨n, hn, hB⟩ := hcb
  unfold V_82 at k
  rw [hB, nI_clamp (by omega)] at k
  refine tr_82_0 G hVa ?_
  refine lp_up (P := fun s => H_82_6 d h a (fo (fun _ s => fo (F_82_11 h a 0) n s) s ((1 : Int32) <<< (i1 &&& 31))) (nI s) Q) 6 ?_ (fun s hs ih => ?_)
  · exact tr_82_6 G hVa ⟨fun c => absurd c (by decide), fun _ => k⟩
  · refine tr_82_6 G hVa ⟨fun _ => ?_, fun c => absurd (nI_lt hs (by decide)) c⟩
    refine lp_82_11 0 G hVa hB (by omega) (Nat.zero_le _) (fun z _ hz => ⟨vp_in_nI (by omega) (by decide), trivial⟩) ?_
    rw [fz_fo]
    rw [nI_succ] at ih
    exact ih
def V_120 (h : mxH) (a : Nat) : Int32 := fo (fun p s => fz (F_120_13 h a (nI p)) (p + 1) (mx_i h (a + 1) 0).toNatClampNeg s) (mx_i h (a + 1) 0).toNatClampNeg 0
theorem sp_120 (G : mxG h) (hVa : (mxT a).1 = 9) (hcp : cB (mx_i h (a + 1) 0) 6) (hcs : cB (mx_i h (a + 7) 0) 10) (k : Q (.inl (some (.int (V_120 h a)))) h) : mx_wp (d + 1) 120 0 (mx_fr 120 [.ref a]) [] h Q := by
  obtain ⟨n, hn, hB⟩ := hcp
  unfold V_120 at k
  rw [hB, nI_clamp (by omega)] at k
  refine tr_120_0 G hVa ?_
  refine lp_up (P := fun s => H_120_4 (d + 1) h a (fo (fun p s => fz (F_120_13 h a (nI p)) (p + 1) n s) s 0) (nI s) Q) n ?_ (fun s hs ih => ?_)
  · exact tr_120_4 G hVa ⟨fun c => absurd (hB ▸ c) Int32.lt_irrefl, fun _ => k⟩
  · refine tr_120_4 G hVa ⟨fun _ => ?_, fun c => absurd (hB.symm ▸ nI_lt hs (by omega)) c⟩
    rw [← nI_succ]
    refine lp_120_13 (s + 1) G hVa hB (by omega) (by omega) (fun z _ hz => ⟨hcs, trivial⟩) ?_
    rw [nI_succ] at ih
    exact ih
theorem bk_ix {n z w : Nat} (hz : z < n) (hn : n ≤ 60) (hw : w < 4) : ((nI n - 1 - nI z) * 4 + nI w) = nI ((n - 1 - z) * 4 + w) := by
  obtain ⟨m, rfl⟩ : ∃ m, n = m + 1 := ⟨n - 1, by omega⟩
  rw [nI_pred, pk_sub (by omega), show (4 : Int32) = nI 4 from rfl, pk_mul, nI_add]
  rfl
theorem bk_vp {n z w : Nat} (hz : z < n) (hn : n ≤ 60) (hw : w < 4) : vp_in ((nI n - 1 - nI z) * 4 + nI w) 240 := by
  rw [bk_ix hz hn hw]
  exact vp_in_nI (by omega) (by decide)
def V_4 (h : mxH) (a : Nat) (i1 : Int32) : Int32 := fo (F_4_4 h a i1) (mx_i h (a + 13) 0).toNatClampNeg 0
theorem sp_4 (G : mxG h) (hVa : (mxT a).1 = 9) (hcb : cB (mx_i h (a + 13) 0) 60) (k : Q (.inl (some (.int (V_4 h a i1)))) h) : mx_wp (d + 1) 4 0 (mx_fr 4 [.ref (a + 13), .int i1]) [] h Q := by
  obtain ⟨n, hn, hB⟩ := hcb
  unfold V_4 at k
  rw [hB, nI_clamp (by omega)] at k
  refine tr_4_0 G hVa ?_
  refine lp_4_4 0 G hVa hB (by omega) (Nat.zero_le _) (fun z _ hz => ⟨⟨fun _ => trivial, fun _ => ⟨fun _ => ⟨fun _ => trivial, fun _ => ⟨fun _ => ⟨?_, trivial⟩, fun _ => trivial⟩⟩, fun _ => trivial⟩⟩, trivial⟩) ?_
  · rw [hB]; exact bk_vp (w := 1) hz hn (by decide)
  · rw [fz_fo]; exact k
/-- the first from z on that p holds of, among k -/
def ff (p : Nat → Bool) : Nat → Nat → Option Nat
  | 0, _ => none
  | k + 1, z => if p z = true then some z else ff p k (z + 1)
def V_5 (h : mxH) (a : Nat) (i1 : Int32) : Int32 := match ff (fun z => decide (V_3 h a (nI z) 1 = i1)) (mx_i h (a + 13) 0).toNatClampNeg 0 with
  | none => -1
  | some z => V_3 h a (nI z) 0
theorem sp_5 (G : mxG h) (hVa : (mxT a).1 = 9) (hcb : cB (mx_i h (a + 13) 0) 60) (k : Q (.inl (some (.int (V_5 h a i1)))) h) : mx_wp (d + 1) 5 0 (mx_fr 5 [.ref (a + 13), .int i1]) [] h Q := by
  obtain ⟨n, hn, hB⟩ := hcb
  unfold V_5 at k
  rw [hB, nI_clamp (by omega)] at k
  refine tr_5_0 G hVa ?_
  have L : ∀ (j z : Nat), z + j = n → ff (fun z => decide (V_3 h a (nI z) 1 = i1)) n 0 = ff (fun z => decide (V_3 h a (nI z) 1 = i1)) j z → H_5_2 (d + 1) h a i1 (nI z) Q := by
    intro j
    induction j with
    | zero =>
      intro z hz e
      have hz : z = n := by omega
      subst hz
      rw [e] at k
      exact tr_5_2 G hVa ⟨fun c => absurd (hB ▸ c) Int32.lt_irrefl, fun _ => k⟩
    | succ j ih =>
      intro z hz e
      refine tr_5_2 G hVa ⟨fun c => ⟨⟨fun _ => trivial, fun _ => ⟨fun _ => ⟨fun _ => trivial, fun _ => ⟨fun _ => ⟨?_, trivial⟩, fun _ => trivial⟩⟩, fun _ => trivial⟩⟩, fun q => ⟨⟨fun _ => trivial, fun _ => ⟨fun _ => ⟨fun _ => trivial, fun _ => ⟨fun _ => ⟨?_, trivial⟩, fun _ => trivial⟩⟩, fun _ => trivial⟩⟩, ?_⟩, fun q => ?_⟩, fun c => absurd (hB.symm ▸ nI_lt (by omega) (by omega)) c⟩
      · rw [hB]; exact bk_vp (w := 1) (by omega) hn (by decide)
      · rw [hB]; exact bk_vp (w := 0) (by omega) hn (by decide)
      · rw [e] at k
        unfold ff at k
        simp only [decide_eq_true_eq, if_pos q] at k
        exact k
      · rw [← nI_succ]
        refine ih (z + 1) (by omega) (e.trans ?_)
        rw [ff]
        simp only [decide_eq_true_eq, if_neg q]
  exact L n 0 (by omega) rfl
def V_107 (h : mxH) (a : Nat) : Int32 := match ff (fun z => !decide (V_106 h a (nI z) = 0)) (mx_i h (a + 1) 0).toNatClampNeg 0 with
  | none => -1
  | some z => nI z
theorem sp_107 (G : mxG h) (hVa : (mxT a).1 = 9) (hcp : cB (mx_i h (a + 1) 0) 6) (hcs : cB (mx_i h (a + 7) 0) 10) (k : Q (.inl (some (.int (V_107 h a)))) h) : mx_wp (d + 2) 107 0 (mx_fr 107 [.ref a]) [] h Q := by
  obtain ⟨n, hn, hB⟩ := hcp
  unfold V_107 at k
  rw [hB, nI_clamp (by omega)] at k
  refine tr_107_0 G hVa ?_
  have L : ∀ (j z : Nat), z + j = n → ff (fun z => !decide (V_106 h a (nI z) = 0)) n 0 = ff (fun z => !decide (V_106 h a (nI z) = 0)) j z → H_107_2 (d + 2) h a (nI z) Q := by
    intro j
    induction j with
    | zero =>
      intro z hz e
      have hz : z = n := by omega
      subst hz
      rw [e] at k
      exact tr_107_2 G hVa ⟨fun c => absurd (hB ▸ c) Int32.lt_irrefl, fun _ => k⟩
    | succ j ih =>
      intro z hz e
      refine tr_107_2 G hVa ⟨fun c => ⟨⟨fun _ => ⟨vp_in_nI (by omega) (by decide), fun _ => trivial, fun _ => ⟨hcs, trivial⟩⟩, fun _ => trivial⟩, fun q => ?_, fun q => ?_⟩, fun c => absurd (hB.symm ▸ nI_lt (by omega) (by omega)) c⟩
      · rw [← nI_succ]
        refine ih (z + 1) (by omega) (e.trans ?_)
        rw [ff]
        simp [q]
      · rw [e, ff] at k
        simp [q] at k
        exact k
  exact L n 0 (by omega) rfl
/-- a step towards -/
def nx (p t : Int32) : Int32 := if p < t then p + 1 else p - 1
/-- hours of a way -/
def wy (lim : Int32) (sl : Nat → Int32) (t l : Int32) : Nat → Int32 → Int32 → Int32
  | 0, _, acc => acc
  | k + 1, p, acc => if p = t then acc else if p + nx p t = 11 ∧ lim < l then -1 else wy lim sl t l k (nx p t) (acc + (1 + l / 10 * sl (nx p t).toNatClampNeg))
theorem nx_in {p t : Int32} (hp : isI p 12) (ht : isI t 12) (hne : ¬ p = t) : isI (nx p t) 12 := by
  obtain ⟨p1, p2⟩ := hp
  obtain ⟨t1, t2⟩ := ht
  unfold nx isI
  split <;> constructor <;> grind
theorem nx_br {p t : Int32} (hp : isI p 12) (ht : isI t 12) (hne : ¬ p = t) : ((if nx p t < p then nx p t else p) = 5) = (p + nx p t = 11) := by
  obtain ⟨p1, p2⟩ := hp
  obtain ⟨t1, t2⟩ := ht
  apply propext
  unfold nx
  by_cases q : p < t
  · rw [if_pos q]
    have : ¬ p + 1 < p := by grind
    rw [if_neg this]
    constructor <;> intro e <;> grind
  · rw [if_neg q]
    have : p - 1 < p := by grind
    rw [if_pos this]
    constructor <;> intro e <;> grind
theorem vp12 {x : Int32} (h : isI x 12) : vp_in x 12 := by
  obtain ⟨j, hj, rfl⟩ := isI_nI (n := 12) (by decide) h
  exact vp_in_nI hj (by decide)
def V_116 (h : mxH) (a : Nat) (i1 i2 : Int32) : Int32 := wy (mx_i h a 5) (mx_i h (a + 15)) i2 (V_77 h a i1) 12 (mx_i h (a + 4) i1.toNatClampNeg) 0
theorem sp_116 (G : mxG h) (hVa : (mxT a).1 = 9) (hcs : cB (mx_i h (a + 7) 0) 10) (hvp : vp_in i1 6) (hpl : isI (mx_i h (a + 4) i1.toNatClampNeg) 12) (ht : isI i2 12) (k : Q (.inl (some (.int (V_116 h a i1 i2)))) h) : mx_wp (d + 1) 116 0 (mx_fr 116 [.ref a, .int i1, .int i2]) [] h Q := by
  refine tr_116_0 G hVa ⟨hcs, hvp, ?_⟩
  unfold V_116 at k
  have L : ∀ (j z : Nat) (p acc : Int32), z + j = 12 → isI p 12 → Q (.inl (some (.int (wy (mx_i h a 5) (mx_i h (a + 15)) i2 (V_77 h a i1) j p acc)))) h → H_116_15 (d + 1) h a i2 (V_77 h a i1) p acc (nI z) Q := by
    intro j
    induction j with
    | zero =>
      intro z p acc hz hp k
      have hz : z = 12 := by omega
      subst hz
      exact tr_116_15 G hVa ⟨fun c => absurd c (by decide), fun _ => k⟩
    | succ j ih =>
      intro z p acc hz hp k
      rw [wy] at k
      refine tr_116_15 G hVa ⟨fun c => ⟨fun e => ?_, fun e v3 e3 => ?_⟩, fun c => absurd (nI_lt (a := z) (b := 12) (by omega) (by decide)) c⟩
      · rw [if_pos e] at k; exact k
      · have e3 : v3 = nx p i2 := e3
        subst e3
        rw [if_neg e] at k
        have hb := nx_br hp ht e
        unfold V_115
        by_cases c1 : mx_i h a 5 < V_77 h a i1
        · by_cases c2 : p + nx p i2 = 11
          · rw [if_pos ⟨c2, c1⟩] at k
            rw [if_pos c1, if_pos (hb ▸ c2)]
            exact ⟨fun _ => k, fun q => absurd rfl q⟩
          · rw [if_neg (fun q => c2 q.1)] at k
            rw [if_pos c1, if_neg (fun q => c2 (hb ▸ q))]
            refine ⟨fun q => absurd q (by decide), fun _ => ⟨vp12 (nx_in hp ht e), ?_⟩⟩
            rw [← nI_succ]
            exact ih (z + 1) _ _ (by omega) (nx_in hp ht e) k
        · rw [if_neg (fun q => c1 q.2)] at k
          rw [if_neg c1]
          refine ⟨fun q => absurd q (by decide), fun _ => ⟨vp12 (nx_in hp ht e), ?_⟩⟩
          rw [← nI_succ]
          exact ih (z + 1) _ _ (by omega) (nx_in hp ht e) k
  exact L 12 0 _ 0 rfl hpl k
def V_262 (r : Nat → Int32) (i1 i2 : Int32) : Int32 := wy (r 6) (fun p => r (9 + p)) i2 (V_205 r i1) 12 (V_196 r i1 2) 0
/-- how far it is -/
def dst (p t : Int32) : Nat := (p.toInt - t.toInt).natAbs
theorem sp_262 (G : mxG h) (hcs : cB (mx_i h 382 4) 10) (hvp : vp_in ((33 + (6 * i1)) + (2 : Int32)) 769) (hpl : isI (V_196 (mx_i h 382) i1 2) 12) (ht : isI i2 12) (k : Q (.inl (some (.int (V_262 (mx_i h 382) i1 i2)))) h) : mx_wp (d + 3) 262 0 (mx_fr 262 [.ref 381, .int i1, .int i2]) [] h Q := by
  refine tr_262_0 G ⟨hcs, hvp, ?_⟩
  unfold V_262 at k
  obtain ⟨t, htt, rfl⟩ := isI_nI (n := 12) (by decide) ht
  have L : ∀ (j p : Nat) (acc : Int32), p < 12 → (p < t → t - p < j) → (¬ p < t → p - t < j) → Q (.inl (some (.int (wy (mx_i h 382 6) (fun p => mx_i h 382 (9 + p)) (nI t) (V_205 (mx_i h 382) i1) j (nI p) acc)))) h → H_262_11 (d + 3) h (nI t) (V_205 (mx_i h 382) i1) acc (nI p) Q := by
    intro j
    induction j with
    | zero => intro p acc hp h1 h2; omega
    | succ j ih =>
      intro p acc hp h1 h2 k
      rw [wy] at k
      refine tr_262_11 G ⟨fun e => ?_, fun e v2 e2 => ?_⟩
      · rw [if_pos e] at k; exact k
      · have e2 : v2 = nx (nI p) (nI t) := e2
        rw [if_neg e, ← e2] at k
        have hne : p ≠ t := fun q => e (by rw [q])
        have hin := nx_in (p := nI p) (t := nI t) (nI_isI (n := 12) hp (by decide)) ht e
        rw [← e2] at hin
        -- the next place, as a number
        have hq : ∃ q : Nat, q < 12 ∧ v2 = nI q ∧ (q < t → t - q < j) ∧ (¬ q < t → q - t < j) := by
          by_cases c : p < t
          · refine ⟨p + 1, by omega, ?_, by omega, by omega⟩
            rw [e2, nx, if_pos (nI_lt c (by omega)), nI_succ]
          · refine ⟨p - 1, by omega, ?_, by omega, by omega⟩
            rw [e2, nx, if_neg (nI_nlt (by omega) (by omega))]
            obtain ⟨m, rfl⟩ : ∃ m, p = m + 1 := ⟨p - 1, by omega⟩
            rw [nI_pred]; rfl
        obtain ⟨q, hq12, rfl, hqa, hqb⟩ := hq
        unfold V_239
        have c9 : (9 + nI q).toNatClampNeg = 9 + q := by rw [show (9 : Int32) = nI 9 from rfl, nI_add, nI_clamp (by omega)]
        rw [nI_clamp (by omega)] at k
        by_cases c1 : nI p + nI q = 11
        · by_cases c2 : mx_i h 382 6 < V_205 (mx_i h 382) i1
          · rw [if_pos ⟨c1, c2⟩] at k
            rw [if_pos c1, if_pos c2]
            exact ⟨fun _ => k, fun q => absurd rfl q⟩
          · rw [if_neg (fun z => c2 z.2)] at k
            rw [if_pos c1, if_neg c2]
            refine ⟨fun q => absurd q (by decide), fun _ => ⟨vpP hq12, ?_⟩⟩
            rw [c9]
            exact ih q _ hq12 hqa hqb k
        · rw [if_neg (fun z => c1 z.1)] at k
          rw [if_neg c1]
          refine ⟨fun q => absurd q (by decide), fun _ => ⟨vpP hq12, ?_⟩⟩
          rw [c9]
          exact ih q _ hq12 hqa hqb k
  obtain ⟨p, hp, ep⟩ := isI_nI (n := 12) (by decide) hpl
  rw [ep] at k ⊢
  exact L 12 p 0 hp (by omega) (by omega) k
def V_7 (h : mxH) (a : Nat) (i1 : Int32) : Int32 := fo (F_7_23 h a (V_71 h a i1) (V_76 h a (V_71 h a i1)) (if (mx_i h (a + 3) i1.toNatClampNeg) < (mx_i h a 5) then (mx_i h (a + 3) i1.toNatClampNeg) else (mx_i h a 5))) (V_71 h a i1).toNatClampNeg (V_71 h a i1)
theorem sp_7 (G : mxG h) (hVa : (mxT a).1 = 9) (hcs : cB (mx_i h (a + 7) 0) 10) (hvp : vp_in i1 6) (hw : cB (V_71 h a i1) 1023) (k : Q (.inl (some (.int (V_7 h a i1)))) h) : mx_wp (d + 2) 7 0 (mx_fr 7 [.ref a, .int i1]) [] h Q := by
  refine tr_7_0 G hVa ⟨hcs, hvp, ?_⟩
  unfold V_7 at k
  obtain ⟨n, hn, hB⟩ := hw
  rw [hB, nI_clamp (by omega)] at k
  rw [hB]
  refine lp_7_23 0 G hVa rfl (by omega) (Nat.zero_le _) (fun z _ hz => ⟨⟨fun _ => ⟨fun _ => ⟨hcs, trivial⟩, fun _ => trivial⟩, fun _ => trivial⟩, trivial⟩) ?_
  rw [fz_fo]; exact k
def V_8 (h : mxH) (a : Nat) (i1 : Int32) : Int32 := (fo (F_8_11 h a i1 (V_73 h a i1)) ((V_73 h a i1).toNatClampNeg + 1) (0, 0)).1
theorem sp_8 (G : mxG h) (hVa : (mxT a).1 = 9) (hcs : cB (mx_i h (a + 7) 0) 10) (hvp : vp_in i1 6) (hw : cB (V_73 h a i1) 1023) (k : Q (.inl (some (.int (V_8 h a i1)))) h) : mx_wp (d + 1) 8 0 (mx_fr 8 [.ref a, .int i1]) [] h Q := by
  refine tr_8_0 G hVa ⟨hcs, ?_⟩
  unfold V_8 at k
  obtain ⟨n, hn, hB⟩ := hw
  rw [hB, nI_clamp (by omega)] at k
  rw [hB]
  refine lp_8_11 (s0 := (0, 0)) (n := n + 1) 0 G hVa rfl (by omega) (by omega) (Nat.zero_le _) (fun z _ hz => ⟨⟨fun _ => ⟨hcs, trivial⟩, fun _ => trivial⟩, ⟨fun _ => ⟨hvp, trivial⟩, fun _ => trivial⟩, trivial⟩) ?_
  rw [fz_fo]; exact k
end
/-! copies -/
theorem sV_pos : ∀ a : Fin 392, (mxT a.val).1 = 9 → (a.val = 119 ∨ a.val = 135 ∨ a.val = 165 ∨ (189 ≤ a.val ∧ a.val < 381 ∧ (a.val - 189) % 16 = 0)) := by decide +kernel
theorem sL_pos : ∀ a : Fin 392, (mxT a.val).1 = 3 → (a.val = 151 ∨ a.val = 158 ∨ a.val = 181) := by decide +kernel
theorem dis_V {a c : Nat} (ha : (mxT a).1 = 9) (hc : (mxT c).1 = 9) : a = c ∨ a + 16 ≤ c ∨ c + 16 ≤ a := by
  have h1 := sV_pos ⟨a, mxT_lt ha⟩ ha
  have h2 := sV_pos ⟨c, mxT_lt hc⟩ hc
  simp only at h1 h2
  omega
theorem dis_L {a c : Nat} (ha : (mxT a).1 = 3) (hc : (mxT c).1 = 3) : a = c ∨ a + 7 ≤ c ∨ c + 7 ≤ a := by
  have h1 := sL_pos ⟨a, mxT_lt ha⟩ ha
  have h2 := sL_pos ⟨c, mxT_lt hc⟩ hc
  simp only at h1 h2
  omega
def cpR (lo hi a c : Nat) (h h1 : mxH) : Prop := mxU (fun b => a + lo ≤ b ∧ b < a + hi) h h1 ∧ ∀ k j, inV k j → lo ≤ k → k < hi → mx_i h1 (a + k) j = mx_i h (c + k) j
def cpL (b e : Nat) (h h1 : mxH) : Prop := mxU (fun x => b ≤ x ∧ x < b + 5) h h1 ∧ ∀ k j, inL k j → mx_i h1 (b + k) j = mx_i h (e + k) j
theorem cpy0 {f g : Nat → Int32} {n j : Nat} (hj : j < n) : va_cpy f g 0 0 n j = f j := by
  unfold va_cpy
  rw [if_pos ⟨Nat.zero_le _, by omega⟩]
  simp
theorem mxU_wrow' {P : Nat → Prop} {h h1 : mxH} {a : Nat} {f : Nat → Int32} (e : h1 = mx_wrow h a f) (hp : P a) : mxU P h h1 := e ▸ mxU_wrow hp
section
variable {d : Nat} {h : mxH} {Q : mxO → mxH → Prop} {a c b e : Nat}
theorem sp_43 (G : mxG h) (hVa : (mxT a).1 = 9) (hVc : (mxT c).1 = 9) (k : ∀ h1, cpR 1 7 a c h h1 → Q (.inl none) h1) : mx_wp d 43 0 (mx_fr 43 [.ref (a + 1), .ref (c + 1)]) [] h Q := by
  have hd := dis_V hVa hVc
  refine tr_43_0 G hVa hVc (fun h1 e1 h2 e2 h3 e3 h4 e4 h5 e5 h6 e6 h7 e7 => k h7 ⟨?_, fun q j hq h1q h7q => ?_⟩)
  · have p : ∀ z, 1 ≤ z → z < 7 → a + 1 ≤ a + z ∧ a + z < a + 7 := by omega
    exact mxU_tr (mxU_wi' e1 (p 1 (by omega) (by omega))) (mxU_tr (mxU_wi' e2 (p 1 (by omega) (by omega))) (mxU_tr (mxU_wrow' e3 (p 2 (by omega) (by omega))) (mxU_tr (mxU_wrow' e4 (p 3 (by omega) (by omega))) (mxU_tr (mxU_wrow' e5 (p 4 (by omega) (by omega))) (mxU_tr (mxU_wrow' e6 (p 5 (by omega) (by omega))) (mxU_wrow' e7 (p 6 (by omega) (by omega))))))))
  · have o2 : ∀ z, z ≠ a + 1 → mx_i h2 z = mx_i h z := fun z hz => by rw [e2, wi_ne hz, e1, wi_ne hz]
    have o3 : ∀ z, z ≠ a + 1 → z ≠ a + 2 → mx_i h3 z = mx_i h z := fun z hz hz2 => by rw [e3, wrow_ne hz2, o2 z hz]
    have o4 : ∀ z, z ≠ a + 1 → z ≠ a + 2 → z ≠ a + 3 → mx_i h4 z = mx_i h z := fun z hz hz2 hz3 => by rw [e4, wrow_ne hz3, o3 z hz hz2]
    have o5 : ∀ z, z ≠ a + 1 → z ≠ a + 2 → z ≠ a + 3 → z ≠ a + 4 → mx_i h5 z = mx_i h z := fun z hz hz2 hz3 hz4 => by rw [e5, wrow_ne hz4, o4 z hz hz2 hz3]
    have o6 : ∀ z, z ≠ a + 1 → z ≠ a + 2 → z ≠ a + 3 → z ≠ a + 4 → z ≠ a + 5 → mx_i h6 z = mx_i h z := fun z hz hz2 hz3 hz4 hz5 => by rw [e6, wrow_ne hz5, o5 z hz hz2 hz3 hz4]
    unfold inV at hq
    have hk : (q = 1 ∧ (j = 0 ∨ j = 6)) ∨ (q = 2 ∧ j < 6) ∨ (q = 3 ∧ j < 6) ∨ (q = 4 ∧ j < 6) ∨ (q = 5 ∧ j < 6) ∨ (q = 6 ∧ j < 6) := by omega
    rcases hk with ⟨rfl, hj⟩ | ⟨rfl, hj⟩ | ⟨rfl, hj⟩ | ⟨rfl, hj⟩ | ⟨rfl, hj⟩ | ⟨rfl, hj⟩
    · rw [e7, wrow_ne (by omega), e6, wrow_ne (by omega), e5, wrow_ne (by omega), e4, wrow_ne (by omega), e3, wrow_ne (by omega)]
      rcases hj with rfl | rfl
      · rw [e2, wi_nj (by decide), e1, wi_at rfl rfl]
      · rw [e2, wi_at rfl rfl, e1, wi_nj (by decide)]
    · rw [e7, wrow_ne (by omega), e6, wrow_ne (by omega), e5, wrow_ne (by omega), e4, wrow_ne (by omega), e3, wrow_at, cpy0 hj, o2 _ (by omega)]
    · rw [e7, wrow_ne (by omega), e6, wrow_ne (by omega), e5, wrow_ne (by omega), e4, wrow_at, cpy0 hj, o3 _ (by omega) (by omega)]
    · rw [e7, wrow_ne (by omega), e6, wrow_ne (by omega), e5, wrow_at, cpy0 hj, o4 _ (by omega) (by omega) (by omega)]
    · rw [e7, wrow_ne (by omega), e6, wrow_at, cpy0 hj, o5 _ (by omega) (by omega) (by omega) (by omega)]
    · rw [e7, wrow_at, cpy0 hj, o6 _ (by omega) (by omega) (by omega) (by omega) (by omega)]
theorem sp_66 (G : mxG h) (hVa : (mxT a).1 = 9) (hVc : (mxT c).1 = 9) (k : ∀ h1, cpR 7 13 a c h h1 → Q (.inl none) h1) : mx_wp d 66 0 (mx_fr 66 [.ref (a + 7), .ref (c + 7)]) [] h Q := by
  have hd := dis_V hVa hVc
  refine tr_66_0 G hVa hVc (fun h2 e2 h3 e3 h4 e4 h5 e5 h6 e6 h7 e7 => k h7 ⟨?_, fun q j hq h1q h7q => ?_⟩)
  · have p : ∀ z, 7 ≤ z → z < 13 → a + 7 ≤ a + z ∧ a + z < a + 13 := by omega
    exact mxU_tr (mxU_wi' e2 (p 7 (by omega) (by omega))) (mxU_tr (mxU_wrow' e3 (p 8 (by omega) (by omega))) (mxU_tr (mxU_wrow' e4 (p 9 (by omega) (by omega))) (mxU_tr (mxU_wrow' e5 (p 10 (by omega) (by omega))) (mxU_tr (mxU_wrow' e6 (p 11 (by omega) (by omega))) (mxU_wrow' e7 (p 12 (by omega) (by omega)))))))
  · have o2 : ∀ z, z ≠ a + 7 → mx_i h2 z = mx_i h z := fun z hz => by rw [e2, wi_ne hz]
    have o3 : ∀ z, z ≠ a + 7 → z ≠ a + 8 → mx_i h3 z = mx_i h z := fun z hz hz2 => by rw [e3, wrow_ne hz2, o2 z hz]
    have o4 : ∀ z, z ≠ a + 7 → z ≠ a + 8 → z ≠ a + 9 → mx_i h4 z = mx_i h z := fun z hz hz2 hz3 => by rw [e4, wrow_ne hz3, o3 z hz hz2]
    have o5 : ∀ z, z ≠ a + 7 → z ≠ a + 8 → z ≠ a + 9 → z ≠ a + 10 → mx_i h5 z = mx_i h z := fun z hz hz2 hz3 hz4 => by rw [e5, wrow_ne hz4, o4 z hz hz2 hz3]
    have o6 : ∀ z, z ≠ a + 7 → z ≠ a + 8 → z ≠ a + 9 → z ≠ a + 10 → z ≠ a + 11 → mx_i h6 z = mx_i h z := fun z hz hz2 hz3 hz4 hz5 => by rw [e6, wrow_ne hz5, o5 z hz hz2 hz3 hz4]
    unfold inV at hq
    have hk : (q = 7 ∧ j = 0) ∨ (q = 8 ∧ j < 10) ∨ (q = 9 ∧ j < 10) ∨ (q = 10 ∧ j < 10) ∨ (q = 11 ∧ j < 10) ∨ (q = 12 ∧ j < 10) := by omega
    rcases hk with ⟨rfl, hj⟩ | ⟨rfl, hj⟩ | ⟨rfl, hj⟩ | ⟨rfl, hj⟩ | ⟨rfl, hj⟩ | ⟨rfl, hj⟩
    · subst hj
      rw [e7, wrow_ne (by omega), e6, wrow_ne (by omega), e5, wrow_ne (by omega), e4, wrow_ne (by omega), e3, wrow_ne (by omega), e2, wi_at rfl rfl]
    · rw [e7, wrow_ne (by omega), e6, wrow_ne (by omega), e5, wrow_ne (by omega), e4, wrow_ne (by omega), e3, wrow_at, cpy0 hj, o2 _ (by omega)]
    · rw [e7, wrow_ne (by omega), e6, wrow_ne (by omega), e5, wrow_ne (by omega), e4, wrow_at, cpy0 hj, o3 _ (by omega) (by omega)]
    · rw [e7, wrow_ne (by omega), e6, wrow_ne (by omega), e5, wrow_at, cpy0 hj, o4 _ (by omega) (by omega) (by omega)]
    · rw [e7, wrow_ne (by omega), e6, wrow_at, cpy0 hj, o5 _ (by omega) (by omega) (by omega) (by omega)]
    · rw [e7, wrow_at, cpy0 hj, o6 _ (by omega) (by omega) (by omega) (by omega) (by omega)]
theorem spc_1 (G : mxG h) (hVa : (mxT a).1 = 9) (hVc : (mxT c).1 = 9) (k : ∀ h1, cpR 13 15 a c h h1 → Q (.inl none) h1) : mx_wp d 1 0 (mx_fr 1 [.ref (a + 13), .ref (c + 13)]) [] h Q := by
  have hd := dis_V hVa hVc
  refine tr_1_0 G hVa hVc (fun h2 e2 h3 e3 => k h3 ⟨?_, fun q j hq h1q h7q => ?_⟩)
  · exact mxU_tr (mxU_wi' e2 (by omega)) (mxU_wrow' e3 (by omega))
  · unfold inV at hq
    have hk : (q = 13 ∧ j = 0) ∨ (q = 14 ∧ j < 240) := by omega
    rcases hk with ⟨rfl, hj⟩ | ⟨rfl, hj⟩
    · subst hj
      rw [e3, wrow_ne (by omega), e2, wi_at rfl rfl]
    · rw [e3, wrow_at, cpy0 hj, e2, wi_ne (by omega)]
theorem sp_20 (G : mxG h) (hVb : (mxT b).1 = 3) (hVe : (mxT e).1 = 3) (ho : (mx_i h e 0) = 0 ∨ (mx_i h e 0) = 1) (k : ∀ h1, cpL b e h h1 → Q (.inl none) h1) : mx_wp d 20 0 (mx_fr 20 [.ref b, .ref e]) [] h Q := by
  have hd := dis_L hVb hVe
  refine tr_20_0 G hVb hVe ⟨ho, fun h1 e1 h2 e2 h3 e3 h4 e4 h5 e5 h6 e6 h7 e7 => k h7 ⟨?_, fun q j hq => ?_⟩⟩
  · have p : ∀ z, z < 5 → b ≤ b + z ∧ b + z < b + 5 := by omega
    exact mxU_tr (mxU_wi' e1 (p 0 (by omega))) (mxU_tr (mxU_wi' e2 (p 0 (by omega))) (mxU_tr (mxU_wi' e3 (p 0 (by omega))) (mxU_tr (mxU_wrow' e4 (p 1 (by omega))) (mxU_tr (mxU_wrow' e5 (p 2 (by omega))) (mxU_tr (mxU_wrow' e6 (p 3 (by omega))) (mxU_wrow' e7 (p 4 (by omega))))))))
  · have o3 : ∀ z, z ≠ b → mx_i h3 z = mx_i h z := fun z hz => by rw [e3, wi_ne hz, e2, wi_ne hz, e1, wi_ne hz]
    have o4 : ∀ z, z ≠ b → z ≠ b + 1 → mx_i h4 z = mx_i h z := fun z hz hz2 => by rw [e4, wrow_ne hz2, o3 z hz]
    have o5 : ∀ z, z ≠ b → z ≠ b + 1 → z ≠ b + 2 → mx_i h5 z = mx_i h z := fun z hz hz2 hz3 => by rw [e5, wrow_ne hz3, o4 z hz hz2]
    have o6 : ∀ z, z ≠ b → z ≠ b + 1 → z ≠ b + 2 → z ≠ b + 3 → mx_i h6 z = mx_i h z := fun z hz hz2 hz3 hz4 => by rw [e6, wrow_ne hz4, o5 z hz hz2 hz3]
    unfold inL at hq
    have hk : (q = 0 ∧ (j = 0 ∨ j = 1 ∨ j = 2)) ∨ (q = 1 ∧ j < 12) ∨ (q = 2 ∧ j < 12) ∨ (q = 3 ∧ j < 12) ∨ (q = 4 ∧ j < 400) := by omega
    rcases hk with ⟨rfl, hj⟩ | ⟨rfl, hj⟩ | ⟨rfl, hj⟩ | ⟨rfl, hj⟩ | ⟨rfl, hj⟩
    · show mx_i h7 b j = mx_i h e j
      rw [e7, wrow_ne (by omega), e6, wrow_ne (by omega), e5, wrow_ne (by omega), e4, wrow_ne (by omega)]
      rcases hj with rfl | rfl | rfl
      · rw [e3, wi_nj (by decide), e2, wi_nj (by decide), e1, wi_at rfl rfl]
      · rw [e3, wi_nj (by decide), e2, wi_at rfl rfl, e1, wi_nj (by decide)]
      · rw [e3, wi_at rfl rfl, e2, wi_nj (by decide), e1, wi_nj (by decide)]
    · rw [e7, wrow_ne (by omega), e6, wrow_ne (by omega), e5, wrow_ne (by omega), e4, wrow_at, cpy0 hj, o3 _ (by omega)]
    · rw [e7, wrow_ne (by omega), e6, wrow_ne (by omega), e5, wrow_at, cpy0 hj, o4 _ (by omega) (by omega)]
    · rw [e7, wrow_ne (by omega), e6, wrow_at, cpy0 hj, o5 _ (by omega) (by omega) (by omega)]
    · rw [e7, wrow_at, cpy0 hj, o6 _ (by omega) (by omega) (by omega) (by omega)]
def W_81 (h : mxH) (a : Nat) : mxH := fo (F_81_2 a) (mx_i h (a + 7) 0).toNatClampNeg h
theorem KW_81 {h : mxH} {a : Nat} : mxK h (W_81 h a) := mxK_fo (g := fun s => s) (fun z s => K_81_2 z s) _ _
theorem F81_ne {z x : Nat} {s : mxH} (hx : x ≠ a + 10) : mx_i (F_81_2 a z s) x = mx_i s x := by
  unfold F_81_2
  split
  · rfl
  · exact wi_ne hx
theorem fo81_ne {n x : Nat} {s : mxH} (hx : x ≠ a + 10) : mx_i (fo (F_81_2 a) n s) x = mx_i s x := by
  induction n with
  | zero => rfl
  | succ n ih => show mx_i (F_81_2 a n _) x = _; rw [F81_ne hx, ih]
theorem sp_81 (G : mxG h) (hVa : (mxT a).1 = 9) (hcb : cB (mx_i h (a + 7) 0) 10) (k : Q (.inl none) (W_81 h a)) : mx_wp d 81 0 (mx_fr 81 [.ref (a + 7)]) [] h Q := by
  obtain ⟨n, hn, hB⟩ := hcb
  unfold W_81 at k
  rw [hB, nI_clamp (by omega)] at k
  refine tr_81_0 G hVa ?_
  refine lp_81_2 (s0 := h) (n := n) 0 G hVa (fun z _ _ => ?_) (by omega) (Nat.zero_le _) (fun z _ hz => ⟨vp_in_nI (by omega) (by decide), trivial⟩) ?_
  · rw [fz_fo, fo81_ne (by omega)]; exact hB
  · rw [fz_fo]; exact k
end
