/-! WHAT STAYS SO: the class's state and the reference's, coupled -/
def lw (h : mxH) (b : Nat) : Nat → Nat → Int32 := fun k j => mx_i h (b + k) j
/-- the ints that a law is -/
def inL (k j : Nat) : Prop := (k = 0 ∧ j ≤ 2) ∨ (1 ≤ k ∧ k ≤ 3 ∧ j < 12) ∨ (k = 4 ∧ j < 400)
def TpN (h : mxH) : Prop := ∃ n : Nat, n ≤ 400 ∧ mx_i h 101 1 = nI n ∧ mx_i h 381 8 = nI n ∧ ∀ k, k < n → isR (mx_i h 386 k) 0 255 ∧ mx_i h 102 k = (mx_i h 386 k).toInt8.toInt32
def RmN (h : mxH) : Prop := ∃ f c : Nat, f < 12 ∧ c ≤ 12 ∧ mx_i h 100 12 = nI f ∧ mx_i h 100 13 = nI c ∧ mx_i h 381 6 = nI c ∧ ∀ i, i < c → (∃ np ns nl, CpN (vw h (189 + 16 * ((f + i) % 12))) (fun k => mx_i h 385 (369 * i + k)) np ns nl) ∧ mx_i h 385 (369 * i + 1) = mx_i h 382 1 ∧ mx_i h 385 (369 * i + 2) = mx_i h 382 2
abbrev mxLW : Type := (Nat → Nat → Int32) → (Nat → Int32) → Prop
def KpN (LW : mxLW) (h : mxH) : Prop := mx_i h 100 10 = mx_i h 381 3 ∧ (mx_i h 381 3 = 0 ∨ (mx_i h 381 3 = 1 ∧ (∃ np ns nl, CpN (vw h 165) (mx_i h 383) np ns nl) ∧ LW (lw h 181) (mx_i h 383)))
/-- what a law is coupled by depends on nothing else -/
def LWok (LW : mxLW) : Prop := ∀ (u u' : Nat → Nat → Int32) (r r' : Nat → Int32), (∀ k j, inL k j → u' k j = u k j) → (∀ k, k = 1 ∨ k = 2 ∨ (369 ≤ k ∧ k < 769) → r' k = r k) → LW u r → LW u' r'
def Inv (LW : mxLW) (h : mxH) (vn vd vr vq np ns nl : Nat) : Prop := mxG h ∧ mxS h vn vd vr vq ∧ CpN (vw h vn) (mx_i h 382) np ns nl ∧ LW (lw h vr) (mx_i h 382) ∧ TpN h ∧ mx_i h 100 14 = mx_i h 381 12 ∧ RmN h ∧ KpN LW h
/-- cells that nothing rests on between two calls -/
def scr (vd vr vq b : Nat) : Prop := b = 101 ∨ (103 ≤ b ∧ b ≤ 118) ∨ (vd ≤ b ∧ b < vd + 16) ∨ (vq ≤ b ∧ b < vq + 7) ∨ b = vr + 5 ∨ b = vr + 6 ∨ b = 381 ∨ b = 384 ∨ 387 ≤ b
def smr (vd vr vq : Nat) (h h1 : mxH) : Prop := mx_c h1 = mx_c h ∧ (∀ b, b ≠ 106 → mx_r h1 b = mx_r h b) ∧ (∀ b, ¬ scr vd vr vq b → mx_i h1 b = mx_i h b) ∧ mx_i h1 101 1 = mx_i h 101 1 ∧ (∀ k, k = 3 ∨ k = 6 ∨ k = 8 ∨ k = 12 → mx_i h1 381 k = mx_i h 381 k)
theorem smr_rfl {vd vr vq : Nat} {h : mxH} : smr vd vr vq h h := ⟨rfl, fun _ _ => rfl, fun _ _ => rfl, rfl, fun _ _ => rfl⟩
theorem smr_tr {vd vr vq : Nat} {h h1 h2 : mxH} (u : smr vd vr vq h h1) (w : smr vd vr vq h1 h2) : smr vd vr vq h h2 := ⟨w.1.trans u.1, fun b hb => (w.2.1 b hb).trans (u.2.1 b hb), fun b hb => (w.2.2.1 b hb).trans (u.2.2.1 b hb), w.2.2.2.1.trans u.2.2.2.1, fun k hk => (w.2.2.2.2 k hk).trans (u.2.2.2.2 k hk)⟩
theorem smr_G {vd vr vq : Nat} {h h1 : mxH} (u : smr vd vr vq h h1) (G : mxG h) : mxG h1 := by
  refine ⟨u.1.trans G.1, fun q hq c hc => ?_⟩
  by_cases e : c = 106
  · subst e
    rw [sT_106] at hc
    exact absurd hc (by revert q; decide +kernel)
  · rw [u.2.1 c e]; exact G.2 q hq c hc
theorem smr_S {vd0 vr0 vq0 : Nat} {h h1 : mxH} {vn vd vr vq : Nat} (u : smr vd0 vr0 vq0 h h1) (S : mxS h vn vd vr vq) : mxS h1 vn vd vr vq := by
  unfold mxS
  rw [u.2.1 100 (by decide), u.2.1 188 (by decide)]
  exact S
theorem Inv_smr {LW : mxLW} (ok : LWok LW) {h h1 : mxH} {vn vd vr vq np ns nl : Nat} (u : smr vd vr vq h h1) (I : Inv LW h vn vd vr vq np ns nl) : Inv LW h1 vn vd vr vq np ns nl := by
  obtain ⟨G, S, C, W, T, F, R, K⟩ := I
  obtain ⟨u1, u2, u3, u4, u5⟩ := u
  have hS := S.2.2.2.2
  have i100 : mx_i h1 100 = mx_i h 100 := u3 100 (by unfold scr; omega)
  have i382 : mx_i h1 382 = mx_i h 382 := u3 382 (by unfold scr; omega)
  have i383 : mx_i h1 383 = mx_i h 383 := u3 383 (by unfold scr; omega)
  have i385 : mx_i h1 385 = mx_i h 385 := u3 385 (by unfold scr; omega)
  have i386 : mx_i h1 386 = mx_i h 386 := u3 386 (by unfold scr; omega)
  have i102 : mx_i h1 102 = mx_i h 102 := u3 102 (by unfold scr; omega)
  have hn : ∀ k j, inV k j → vw h1 vn k j = vw h vn k j := fun k j hk => by
    show mx_i h1 (vn + k) j = mx_i h (vn + k) j
    rw [u3 (vn + k) (by unfold scr; unfold inV at hk; omega)]
  have hrm : ∀ q, q < 12 → ∀ k j, inV k j → vw h1 (189 + 16 * q) k j = vw h (189 + 16 * q) k j := fun q hq k j hk => by
    show mx_i h1 (189 + 16 * q + k) j = mx_i h (189 + 16 * q + k) j
    rw [u3 _ (by unfold scr; unfold inV at hk; omega)]
  have hk : ∀ k j, inV k j → vw h1 165 k j = vw h 165 k j := fun k j hk => by
    show mx_i h1 (165 + k) j = mx_i h (165 + k) j
    rw [u3 _ (by unfold scr; unfold inV at hk; omega)]
  have hlr : ∀ k j, inL k j → lw h1 vr k j = lw h vr k j := fun k j hk => by
    show mx_i h1 (vr + k) j = mx_i h (vr + k) j
    rw [u3 _ (by unfold scr; unfold inL at hk; omega)]
  have hlk : ∀ k j, inL k j → lw h1 181 k j = lw h 181 k j := fun k j hk => by
    show mx_i h1 (181 + k) j = mx_i h (181 + k) j
    rw [u3 _ (by unfold scr; unfold inL at hk; omega)]
  have ufull : smr vd vr vq h h1 := ⟨u1, u2, u3, u4, u5⟩
  refine ⟨smr_G ufull G, smr_S ufull S, ?_, ?_, ?_, ?_, ?_, ?_⟩
  · rw [i382]; exact CpN_congr hn (fun _ _ _ _ => rfl) C
  · rw [i382]; exact ok _ _ _ _ hlr (fun _ _ => rfl) W
  · obtain ⟨n, a1, a2, a3, a4⟩ := T
    refine ⟨n, a1, u4 ▸ a2, (u5 8 (by decide)) ▸ a3, ?_⟩
    rw [i386, i102]; exact a4
  · rw [i100, u5 12 (by decide)]; exact F
  · obtain ⟨f, c, a1, a2, a3, a4, a5, a6⟩ := R
    refine ⟨f, c, a1, a2, ?_, ?_, ?_, fun i hi => ?_⟩
    · rw [i100]; exact a3
    · rw [i100]; exact a4
    · rw [u5 6 (by decide)]; exact a5
    · rw [i385, i382]
      obtain ⟨⟨x1, x2, x3, x4⟩, x5⟩ := a6 i hi
      exact ⟨⟨x1, x2, x3, CpN_congr (hrm _ (Nat.mod_lt _ (by decide))) (fun _ _ _ _ => rfl) x4⟩, x5⟩
  · obtain ⟨a1, a2⟩ := K
    refine ⟨?_, ?_⟩
    · rw [i100, u5 3 (by decide)]; exact a1
    · rw [u5 3 (by decide), i383]
      rcases a2 with a2 | ⟨a2, ⟨x1, x2, x3, x4⟩, a4⟩
      · exact .inl a2
      · exact .inr ⟨a2, ⟨x1, x2, x3, CpN_congr hk (fun _ _ _ _ => rfl) x4⟩, ok _ _ _ _ hlk (fun _ _ => rfl) a4⟩
/-- the same but for longs -/
def mdl (h hm : mxH) : Prop := mx_c hm = mx_c h ∧ mx_x hm = mx_x h ∧ mx_n hm = mx_n h ∧ mx_i hm = mx_i h ∧ mx_r hm = mx_r h
/-- one exception more, or none -/
def bud (h h1 : mxH) : Prop := mx_x h1 ≤ mx_x h + 1 ∧ mx_n h1 ≤ mx_n h + 6
/-- what an answer of the class, and one of the reference, must be: code k is what the reference calls the exception k -/
def ansOk (code : Nat → Int32) (o : mxO) (b t : Int32) : Prop := match o with
  | .inl (some (.int v)) => t = 0 ∧ v = b
  | .inr k => t = code k ∧ code k ≠ 0
  | _ => False
/-- a call of the class, then the same call of the reference: all is well, and the state is coupled again -/
def Op (LW : mxLW) (yc ym : Nat) (as : List Value) (code : Nat → Int32) : Prop := ∀ (h : mxH) (vn vd vr vq np ns nl : Nat), Inv LW h vn vd vr vq np ns nl → mx_wp 500 yc 0 (mx_fr yc (.ref 100 :: as)) [] h (fun o h1 => ∀ hm, mdl h1 hm → mx_wp 500 ym 0 (mx_fr ym (.ref 381 :: as)) [] hm (fun o2 h2 => ∃ b, o2 = .inl (some (.int b)) ∧ ansOk code o b (mx_i h2 381 0) ∧ bud h h2 ∧ ∃ vn vd vr vq np ns nl, Inv LW h2 vn vd vr vq np ns nl))
section
variable {vd vr vq : Nat} {h h1 hm : mxH}
theorem smr_mdl (u : mdl h hm) : smr vd vr vq h hm := ⟨u.1, fun b _ => by rw [u.2.2.2.2], fun b _ => by rw [u.2.2.2.1], by rw [u.2.2.2.1], fun _ _ => by rw [u.2.2.2.1]⟩
theorem smr_ex : smr vd vr vq h (mx_ex h) := ⟨rfl, fun _ _ => rfl, fun _ _ => rfl, rfl, fun _ _ => rfl⟩
/-- a write to a cell of no account -/
theorem smr_wi {a k : Nat} {v : Int32} (ha : scr vd vr vq a) (h1 : a = 101 → k ≠ 1) (h2 : a = 381 → k ≠ 3 ∧ k ≠ 6 ∧ k ≠ 8 ∧ k ≠ 12) : smr vd vr vq h (mx_wi h a k v) := by
  refine ⟨rfl, fun _ _ => rfl, fun b hb => wi_ne (fun e => hb (e ▸ ha)), ?_, fun j hj => ?_⟩
  · rw [wi_i, if_neg]
    rintro ⟨rfl, rfl⟩
    exact h1 rfl rfl
  · rw [wi_i, if_neg]
    rintro ⟨rfl, rfl⟩
    have := h2 rfl
    omega
theorem smr_thrown {v : Int32} : smr vd vr vq h (mx_wi h 381 0 v) := smr_wi (by unfold scr; omega) (by omega) (by omega)
end
/-- the reference says that it threw (or didn't), and has answered -/
theorem op_fin {LW : mxLW} (ok : LWok LW) {code : Nat → Int32} {o : mxO} {h hm : mxH} {vn vd vr vq np ns nl : Nat} {b t : Int32} (I : Inv LW h vn vd vr vq np ns nl) (u : smr vd vr vq h hm) (hx : bud h hm) (ho : ansOk code o b t) : ∃ b2, (.inl (some (.int b)) : mxO) = .inl (some (.int b2)) ∧ ansOk code o b2 (mx_i (mx_wi hm 381 0 t) 381 0) ∧ bud h (mx_wi hm 381 0 t) ∧ ∃ vn vd vr vq np ns nl, Inv LW (mx_wi hm 381 0 t) vn vd vr vq np ns nl :=
  ⟨b, rfl, by rw [wi_at rfl rfl]; exact ho, hx, vn, vd, vr, vq, np, ns, nl, Inv_smr ok (smr_tr u smr_thrown) I⟩
theorem bud_mdl {h hm : mxH} (u : mdl h hm) : bud h hm := ⟨by rw [u.2.1]; omega, by rw [u.2.2.1]; omega⟩
theorem bud_ex {h hm : mxH} (u : mdl (mx_ex h) hm) : bud h hm := ⟨by rw [u.2.1]; exact Nat.le_refl _, by rw [u.2.2.1]; exact Nat.le_refl _⟩
