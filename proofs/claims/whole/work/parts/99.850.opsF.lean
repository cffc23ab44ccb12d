/-! OPS F: goes -/
def isM (c : Nat → Option Nat) (S : Nat → Prop) (v : Option Nat) : Prop := (∀ go, S go → ∀ b, c go = some b → ∃ a, v = some a ∧ a ≤ b) ∧ (∀ a, v = some a → ∃ go, S go ∧ c go = some a)
theorem isM_u {c : Nat → Option Nat} {S : Nat → Prop} {v w : Option Nat} (h : isM c S v) (k : isM c S w) : v = w := by
  match v, w, h, k with
  | none, none, _, _ => rfl
  | none, some b, h, k =>
    obtain ⟨go, s, e⟩ := k.2 b rfl
    obtain ⟨a, q, -⟩ := h.1 go s b e
    cases q
  | some a, none, h, k =>
    obtain ⟨go, s, e⟩ := h.2 a rfl
    obtain ⟨b, q, -⟩ := k.1 go s a e
    cases q
  | some a, some b, h, k =>
    obtain ⟨g1, s1, e1⟩ := h.2 a rfl
    obtain ⟨g2, s2, e2⟩ := k.2 b rfl
    obtain ⟨x, q1, l1⟩ := k.1 g1 s1 a e1
    obtain ⟨y, q2, l2⟩ := h.1 g2 s2 b e2
    cases q1; cases q2
    congr 1
    omega
theorem isM_add {c : Nat → Option Nat} {S S' : Nat → Prop} {v : Option Nat} {g : Nat} (h : isM c S v) (hs : ∀ go, S' go ↔ (S go ∨ go = g)) : isM c S' (mnO v (c g)) := by
  refine ⟨fun go s b e => ?_, fun a e => ?_⟩
  · rcases (hs go).mp s with s | rfl
    · obtain ⟨x, q, l⟩ := h.1 go s b e
      subst q
      match hc : c g with
      | none => exact ⟨x, rfl, l⟩
      | some y =>
        show ∃ a, (if y < x then some y else some x) = some a ∧ a ≤ b
        by_cases z : y < x
        · rw [if_pos z]; exact ⟨y, rfl, by omega⟩
        · rw [if_neg z]; exact ⟨x, rfl, l⟩
    · rw [e]
      match v with
      | none => exact ⟨b, rfl, Nat.le_refl _⟩
      | some x =>
        show ∃ a, (if b < x then some b else some x) = some a ∧ a ≤ b
        by_cases z : b < x
        · rw [if_pos z]; exact ⟨b, rfl, by omega⟩
        · rw [if_neg z]; exact ⟨x, rfl, by omega⟩
  · have old : ∀ a, v = some a → ∃ go, S' go ∧ c go = some a := fun a q => by
      obtain ⟨go, s, e⟩ := h.2 a q
      exact ⟨go, (hs go).mpr (.inl s), e⟩
    match hc : c g with
    | none => rw [hc] at e; exact old a e
    | some y =>
      rw [hc] at e
      match hv : v with
      | none =>
        have e : some y = some a := e
        cases e
        exact ⟨g, (hs g).mpr (.inr rfl), hc⟩
      | some x =>
        have e : (if y < x then some y else some x) = some a := e
        split at e
        · cases e; exact ⟨g, (hs g).mpr (.inr rfl), hc⟩
        · cases e; exact old _ rfl
theorem isM_c {c c' : Nat → Option Nat} {S S' : Nat → Prop} {v : Option Nat} (h : isM c S v) (hs : ∀ go b, c' go = some b → (S' go ↔ S go)) (hs2 : ∀ go b, c go = some b → S go → S' go) (e : ∀ go, (S go ∨ S' go) → c' go = c go) : isM c' S' v := by
  refine ⟨fun go s b q => ?_, fun a q => ?_⟩
  · have s' := (hs go b q).mp s
    exact h.1 go s' b ((e go (.inl s')).symm.trans q)
  · obtain ⟨go, s, w⟩ := h.2 a q
    exact ⟨go, hs2 go a w s, (e go (.inl s)).trans w⟩
theorem fb_M {c : Nat → Option Nat} : ∀ k, isM c (fun go => 1 ≤ go ∧ go ≤ k) (fb c k) := by
  intro k
  induction k with
  | zero => exact ⟨fun go s => absurd s.1 (by omega), fun a e => by cases e⟩
  | succ k ih => exact isM_add ih (fun go => by omega)
def rvO (x : Option Nat) : Int32 := match x with
  | none => 2000000000
  | some v => nI v
theorem b64_6 : ∀ z : Fin 64, ∀ p : Fin 64, 0 < p.val → p.val &&& z.val = p.val → ((p.val - 1) &&& z.val) &&& z.val = ((p.val - 1) &&& z.val) ∧ ((p.val - 1) &&& z.val) < p.val := by decide +kernel
theorem b64_9 : ∀ z : Fin 64, ∀ p : Fin 64, 0 < p.val → p.val &&& z.val = p.val → ∀ t : Fin 64, t.val &&& z.val = t.val → t.val < p.val → t.val ≤ ((p.val - 1) &&& z.val) := by decide +kernel
def ldP (l : Nat → Nat) (p : Nat) : Nat → Nat
  | 0 => 0
  | x + 1 => ldP l p x + (if p.testBit x = true then l x else 0)
theorem ldP_6 {l : Nat → Nat} {p : Nat} : ldP l p 6 = ld l p := by
  simp only [ldP, ld, Nat.zero_add]
theorem ldP_np {l : Nat → Nat} {p np : Nat} (h6 : np ≤ 6) (hl : ∀ x, np ≤ x → l x = 0) : ldP l p np = ld l p := by
  have : ∀ k, np + k ≤ 6 → ldP l p (np + k) = ldP l p np := by
    intro k
    induction k with
    | zero => intro _; rfl
    | succ k ih =>
      intro hk
      show ldP l p (np + k) + (if p.testBit (np + k) = true then l (np + k) else 0) = _
      rw [ih (by omega), hl _ (by omega)]
      split <;> rfl
  rw [← ldP_6, ← this (6 - np) (by omega), show np + (6 - np) = 6 by omega]
section
variable {d np ns nl : Nat} {h0 : mxH} {Q : mxO → mxH → Prop} {r : Nat → Int32}
theorem H272c {z p : Nat} {w : Int32} {h : mxH} (C : Rok r np ns nl) (e : mx_i h 382 = r) (G : mxG h) (hz : z < 64) (hp : p < 64) (ls : ¬ ld (lR r np) p ≤ limR r ∨ (z &&& (63 ^^^ p)) < 1024) (fin : ∀ v2, v2 = (if ld (lR r np) p ≤ limR r then (if mx_i h 388 (z &&& (63 ^^^ p)) = 2000000000 then w else V_192 r w (1 + mx_i h 388 (z &&& (63 ^^^ p)))) else w) → H_272_23 (d + 3) h (nI np) (nI z) v2 ((nI p - 1) &&& nI z) Q) : ∀ (m x : Nat), m + x = np → H_272_29 (d + 3) h (nI np) (nI z) w (nI p) (nI (ldP (lR r np) p x)) (nI x) Q := by
  obtain ⟨v, C⟩ := C
  have n6 := C_np6 C
  have lb : ∀ y, lR r np y ≤ 400 := fun y => (lR_e C).1
  have bdP : ∀ x, ldP (lR r np) p x ≤ 400 * x := by
    intro x
    induction x with
    | zero => exact Nat.le_refl _
    | succ x ih =>
      show ldP (lR r np) p x + (if p.testBit x = true then lR r np x else 0) ≤ _
      have := lb x
      split <;> omega
  have lim := limR_e C
  have s2 := b64_2 ⟨p, hp⟩ ⟨z, hz⟩
  dsimp only at s2
  intro m
  induction m with
  | zero =>
    intro x hx
    obtain rfl : x = np := by omega
    have hl : ldP (lR r x) p x = ld (lR r x) p := ldP_np n6 (fun y hy => by unfold lR; rw [if_neg (by omega)])
    have b := ld_bd lb p
    rw [hl]
    refine tr_272_29 G ⟨fun c => absurd c Int32.lt_irrefl, fun _ => ⟨⟨fun _ => trivial, fun c => ⟨?_, trivial⟩⟩, fun v2 e2 => fin v2 ?_⟩⟩
    · rw [e, lim.2] at c
      have : ld (lR r x) p ≤ limR r := by
        rcases Nat.lt_or_ge (limR r) (ld (lR r x) p) with q | q
        · exact absurd (nI_lt q (by omega)) c
        · exact q
      rw [s2]
      exact vp_in_nI (ls.resolve_left (fun q => q this)) (by decide)
    · rw [e2, e, lim.2, s2]
      by_cases q : ld (lR r x) p ≤ limR r
      · have := ls.resolve_left (fun y => y q)
        rw [if_neg (show ¬ nI (limR r) < nI (ld (lR r x) p) from fun y => absurd ((nI_ltI (by omega) (by omega)).mp y) (by omega)), if_pos q, nI_clamp (by omega)]
      · rw [if_pos (show nI (limR r) < nI (ld (lR r x) p) from nI_lt (by omega) (by omega)), if_neg q]
  | succ m ih =>
    intro x hx
    have hxn : x < np := by omega
    refine tr_272_29 G ⟨fun _ => ⟨⟨fun _ => trivial, fun _ => ⟨by rw [e]; exact C_rs C, trivial⟩⟩, fun v6 e6 => ?_⟩, fun c => absurd (nI_lt hxn (by omega)) c⟩
    rw [e, v194 (by omega), bt_nI (by omega), (lR_e C).2 hxn] at e6
    have ev : nI (ldP (lR r np) p x) + v6 = nI (ldP (lR r np) p (x + 1)) := by
      rw [e6]
      show _ = nI (ldP (lR r np) p x + (if p.testBit x = true then lR r np x else 0))
      by_cases q : p.testBit x = true
      · rw [if_pos q, if_neg (by decide), if_pos q, nI_add]
      · rw [if_neg q, if_pos rfl, if_neg q, Int32.add_zero]; rfl
    rw [ev, nI_1]
    exact ih (x + 1) (by omega)
theorem H272b {z : Nat} {h : mxH} (C : Rok r np ns nl) (e : mx_i h 382 = r) (G : mxG h) (hz : z < 2 ^ np) (hz0 : 0 < z) (tb : ∀ i, i < z → mx_i h 388 i = rvO (mG (lR r np) (limR r) i)) (fin : ∀ h3, h3 = mx_wi h 388 z (rvO (mG (lR r np) (limR r) z)) → H_272_10 (d + 3) h3 (nI np) (nI z + 1) Q) : ∀ (f p : Nat) (v : Option Nat), p < f → p &&& z = p → p ≤ z → isM (cd (lR r np) (limR r) (mG (lR r np) (limR r)) z) (fun go => go &&& z = go ∧ p < go ∧ go ≤ z) v → H_272_23 (d + 3) h (nI np) (nI z) (rvO v) (nI p) Q := by
  have n6 : np ≤ 6 := by obtain ⟨v, C⟩ := C; exact C_np6 C
  have p64 := (b64_8 ⟨np, by omega⟩).2
  dsimp only at p64
  have z64 : z < 64 := by omega
  have B : BdO (mG (lR r np) (limR r)) z := fun i hi v hv => mG_bd i (by omega) v hv
  intro f
  induction f with
  | zero => intro p v hp; omega
  | succ f ih =>
    intro p v hpf hp hpz M
    by_cases c : p = 0
    · subst c
      refine tr_272_23 G ⟨fun q => absurd q (by decide), fun _ => ⟨vp_in_nI (by omega) (by decide), fun h3 e3 => fin h3 ?_⟩⟩
      rw [nI_clamp (by omega)] at e3
      rw [e3]
      congr 2
      -- the same minimum
      cases z with
      | zero => omega
      | succ n =>
        have e : mG (lR r np) (limR r) (n + 1) = fb (cd (lR r np) (limR r) (tbG (lR r np) (limR r) n) (n + 1)) (n + 1) := by
          show (if n + 1 = n + 1 then _ else _) = _
          rw [if_pos rfl]
        rw [e]
        refine isM_u (c := cd (lR r np) (limR r) (mG (lR r np) (limR r)) (n + 1)) M (isM_c (fb_M (n + 1)) (fun go b q => ?_) (fun go b q s => ?_) (fun go s => ?_))
        · unfold cd at q
          split at q
          · rename_i w
            exact ⟨fun s => ⟨by omega, s.2.2⟩, fun s => ⟨w.1, by omega, s.2⟩⟩
          · cases q
        · unfold cd at q
          split at q
          · rename_i w
            exact ⟨w.1, by omega, s.2⟩
          · cases q
        · have g1 : 1 ≤ go ∧ go ≤ n + 1 := by
            rcases s with s | s
            · exact s
            · exact ⟨by omega, s.2.2⟩
          unfold cd
          by_cases w : go &&& (n + 1) = go ∧ ld (lR r np) go ≤ limR r
          · rw [if_pos w, if_pos w]
            have lt := b64_7 ⟨go, by omega⟩ ⟨n + 1, z64⟩ (by show 0 < go; omega) w.1
            dsimp only at lt
            rw [tbG_le n _ (by omega)]
          · rw [if_neg w, if_neg w]
    · have p0 : 0 < p := by omega
      have s6 := b64_6 ⟨z, z64⟩ ⟨p, by omega⟩ p0 hp
      have s9 := b64_9 ⟨z, z64⟩ ⟨p, by omega⟩ p0 hp
      have s5 := b64_5 ⟨p, by omega⟩ ⟨z, z64⟩ p0
      dsimp only at s6 s9 s5
      have lt := b64_7 ⟨p, by omega⟩ ⟨z, z64⟩ p0 hp
      dsimp only at lt
      refine tr_272_23 G ⟨fun _ => ?_, fun q => absurd (show (0 : Int32) < nI p from nI_lt (a := 0) p0 (by omega)) q⟩
      refine H272c C e G z64 (by omega) (.inr (by omega)) (fun v2 e2 => ?_) np 0 rfl
      rw [s5]
      have vb : ∀ a, v = some a → a ≤ z := fun a q => by
        obtain ⟨go, s, w⟩ := M.2 a q
        exact cd_bd z64 (by omega) s.2.2 B w
      have ev : v2 = rvO (mnO v (cd (lR r np) (limR r) (mG (lR r np) (limR r)) z p)) := by
        rw [e2]
        unfold cd
        by_cases q : ld (lR r np) p ≤ limR r
        · rw [if_pos q, if_pos (show p &&& z = p ∧ ld (lR r np) p ≤ limR r from ⟨hp, q⟩), tb _ lt]
          match hf : mG (lR r np) (limR r) (z &&& (63 ^^^ p)) with
          | none => rw [if_pos (show rvO none = 2000000000 from rfl)]; rfl
          | some b =>
            have bb := B _ lt b hf
            have ne : ¬ nI b = 2000000000 := fun y => by
              have := (nI_eq (a := b) (b := 2000000000) (by omega) (by omega)).mp y
              omega
            rw [if_neg (show ¬ rvO (some b) = 2000000000 from ne)]
            have e1 : 1 + rvO (some b) = nI (b + 1) := by
              show (1 : Int32) + nI b = nI (b + 1)
              rw [Int32.add_comm, nI_1]
            rw [e1]
            unfold V_192
            match v with
            | none =>
              show (if (2000000000 : Int32) < nI (b + 1) then (2000000000 : Int32) else nI (b + 1)) = nI (b + 1)
              rw [if_neg (show ¬ (2000000000 : Int32) < nI (b + 1) from fun y => absurd ((nI_ltI (a := 2000000000) (by omega) (by omega)).mp y) (by omega))]
            | some a =>
              have ab := vb a rfl
              show (if nI a < nI (b + 1) then nI a else nI (b + 1)) = rvO (if b + 1 < a then some (b + 1) else some a)
              by_cases w : b + 1 < a
              · rw [if_pos w, if_neg (fun y => absurd ((nI_ltI (by omega) (by omega)).mp y) (by omega))]; rfl
              · rw [if_neg w]
                by_cases w2 : a < b + 1
                · rw [if_pos (nI_lt w2 (by omega))]; rfl
                · rw [if_neg (fun y => w2 ((nI_ltI (by omega) (by omega)).mp y)), show a = b + 1 by omega]; rfl
        · rw [if_neg q, if_neg (show ¬ (p &&& z = p ∧ ld (lR r np) p ≤ limR r) from fun y => q y.2)]; rfl
      rw [ev]
      refine ih ((p - 1) &&& z) _ (by omega) s6.1 (by omega) (isM_add M (fun go => ?_))
      constructor
      · rintro ⟨g1, g2, g3⟩
        rcases Nat.lt_or_ge p go with q | q
        · exact .inl ⟨g1, q, g3⟩
        · right
          rcases Nat.lt_or_ge go p with q2 | q2
          · have := s9 ⟨go, by omega⟩ g1 q2
            dsimp only at this
            omega
          · omega
      · rintro (⟨g1, g2, g3⟩ | rfl)
        · exact ⟨g1, by omega, g3⟩
        · exact ⟨hp, s6.2, hpz⟩
theorem H272a (C : Rok r np ns nl) (fin : ∀ h1 v3, frW h0 h1 ∨ True → mxU (fun c => c = 388) h0 h1 → v3 = cvO (mG (lR r np) (limR r) (2 ^ np - 1)) → Q (.inl (some (.int v3))) h1) (e0 : mx_i h0 382 = r) : ∀ (m z : Nat) (h : mxH), m + z = 2 ^ np → mxG h → mxU (fun c => c = 388) h0 h → (∀ i, i < z → mx_i h 388 i = rvO (mG (lR r np) (limR r) i)) → H_272_10 (d + 3) h (nI np) (nI z) Q := by
  have n6 : np ≤ 6 := by obtain ⟨v, C⟩ := C; exact C_np6 C
  have p64 := (b64_8 ⟨np, by omega⟩)
  dsimp only at p64
  have pp : 0 < 2 ^ np := Nat.pow_pos (by decide)
  intro m
  induction m with
  | zero =>
    intro z h hm G U tb
    have hz : z = 2 ^ np := by omega
    refine tr_272_10 G ⟨fun c => ?_, fun _ => ?_⟩
    · rw [p64.1, hz] at c
      exact absurd c Int32.lt_irrefl
    · rw [p64.1, show (1 : Int32) = nI 1 from rfl, pk_sub (by omega), nI_clamp (by omega)]
      refine ⟨vp_in_nI (by omega) (by decide), fun v3 e3 => fin h v3 (.inr trivial) U ?_⟩
      rw [e3, tb _ (by omega)]
      match hg : mG (lR r np) (limR r) (2 ^ np - 1) with
      | none => rw [if_pos (show rvO none = 2000000000 from rfl)]; rfl
      | some b =>
        have bb := mG_bd _ (by omega) b hg
        rw [if_neg (show ¬ rvO (some b) = 2000000000 from fun y => by
          have := (nI_eq (a := b) (b := 2000000000) (by omega) (by omega)).mp y
          omega)]; rfl
  | succ m ih =>
    intro z h hm G U tb
    have hz : z < 2 ^ np := by omega
    have e : mx_i h 382 = r := (mxU_i U (by decide)).trans e0
    have nx : ∀ h3, h3 = mx_wi h 388 z (rvO (mG (lR r np) (limR r) z)) → H_272_10 (d + 3) h3 (nI np) (nI z + 1) Q := by
      intro h3 e3
      rw [nI_1]
      refine ih (z + 1) h3 (by omega) (by rw [e3]; exact mxG_wi G) (mxU_tr U (by rw [e3]; exact mxU_wi rfl)) (fun i hi => ?_)
      rw [e3, wi_row]
      by_cases q : i = z
      · rw [if_pos q, q]
      · rw [if_neg q, tb i (by omega)]
    refine tr_272_10 G ⟨fun _ v5 e5 => ?_, fun c => absurd (by rw [p64.1]; exact nI_lt hz (by omega)) c⟩
    by_cases z0 : z = 0
    · subst z0
      rw [if_pos (show nI 0 = 0 from rfl)] at e5
      refine tr_272_23 G ⟨fun q => absurd q (by decide), fun _ => ⟨vp_in_nI (by omega) (by decide), fun h3 e3 => nx h3 ?_⟩⟩
      rw [e3, e5]; rfl
    · rw [if_neg (show ¬ nI z = 0 from fun q => z0 ((nI_eq (b := 0) (by omega) (by decide)).mp q))] at e5
      rw [e5]
      refine H272b C e G hz (by omega) tb nx (z + 1) z none (by omega) (Nat.and_self z) (Nat.le_refl _) ⟨fun go s => absurd s.2.1 (by omega), fun a q => by cases q⟩
end
theorem op_goes : Op LWd 158 272 [] (fun _ => 0) := by
  intro h vn vd vr vq np ns nl I
  have C := I.2.2.1
  have S := I.2.1
  have b0 := S_ne S
  refine tr_158_0 I.1 S ⟨⟨(_, np, ns, nl), C⟩, fun x1 h4 u4 => ?_⟩
  intro hm hmd
  have ex := u4.2 _ np ns nl C
  have m4 : mx_i h4 382 = mx_i h 382 := mxU_i u4.1 (by decide)
  have em : mx_i hm 382 = mx_i h 382 := (md_382 hmd 382).trans m4
  refine tr_272_0 (agr_G (P := fun _ => False) (agr_mdl hmd) (mxU_G u4.1 I.1)) (fun h1 e1 => ?_)
  have m1 : mx_i h1 382 = mx_i h 382 := by rw [e1, thr382]; exact em
  have t1 : mx_i h1 381 0 = 0 := by rw [e1, thr0]
  rw [m1, C_np C]
  have G1 : mxG h1 := by rw [e1]; exact mxG_wi (agr_G (P := fun _ => False) (agr_mdl hmd) (mxU_G u4.1 I.1))
  refine H272a (r := mx_i h 382) (np := np) (ns := ns) (nl := nl) (h0 := h1) ⟨_, C⟩ (fun h2 v3 _ U2 e3 => ?_) m1 (2 ^ np) 0 h1 rfl G1 mxU_rfl (fun i hi => by omega)
  have s4 : smr vd vr vq h h4 := smr_U u4.1 (fun c hc => by unfold scr; omega)
  have s1 : smr vd vr vq hm h1 := by rw [e1]; exact smr_thrown
  have s2 : smr vd vr vq h1 h2 := smr_U U2 (fun c hc => by unfold scr; omega)
  refine op_fin2 LWd_ok I (smr_tr (smr_tr (smr_tr s4 (smr_mdl hmd)) s1) s2) (bud_r (bq_tr (bq_tr (bq_tr (bq_U u4.1) (bq_mdl hmd)) (bq_wi' e1)) (bq_U U2))) ⟨?_, by rw [ex, e3]⟩
  rw [mxU_i U2 (by decide)]; exact t1
