/-! SPECS by hand, 25: hours of the reference -/
section
variable {r : Nat → Int32} {np ns nl x : Nat} {W : Option (List LL)}
theorem wlk_off (hx : x < 6) {k : Nat} (hk : offR k) : wlkR W r x k = r k := by
  unfold wlkR
  split
  · exact rs_off hk (by omega)
  · split
    · exact rs_off hk (by omega)
    · rfl
theorem tir_off (hx : x < 6) {k : Nat} (hk : offR k) : tirR W r x k = r k := rs_off hk (by omega)
theorem dr_off (hx : x < 6) {k : Nat} (hk : offR k) : drR W r x k = r k := (rs_off hk (by omega)).trans (tir_off hx hk)
theorem stp_off {dr : Int32} {s : (Nat → Int32) × Int32} (hx : x < 6) {k : Nat} (hk : offR k) : (stp W dr x s).1 k = s.1 k := by
  unfold stp
  split
  · rfl
  · split
    · exact tir_off hx hk
    · split
      · exact (rs_off hk (by omega)).trans (dr_off hx hk)
      · exact dr_off hx hk
theorem hrT_off {dr : Int32} (hn : np ≤ 6) {k : Nat} (hk : offR k) : (hrT W dr np r).1 k = r k := by
  unfold hrT
  have a : (fo (fun x r => wlkR W r x) np r) k = r k := fo_ok (P := fun (s : Nat → Int32) => s k = r k) (N := np) (fun z s hz e => (wlk_off (by omega) hk).trans e) np _ (Nat.le_refl _) rfl
  exact fo_ok (P := fun (s : (Nat → Int32) × Int32) => s.1 k = r k) (N := np) (fun z s hz e => (stp_off (by omega) hk).trans e) np _ (Nat.le_refl _) a
theorem dwR_off (hn : np ≤ 6) (hs : ns ≤ 10) {k : Nat} (hk : offR k) : dwR np ns r k = r k := by
  unfold dwR
  have a : (fo grw ns r) k = r k := fo_ok (P := fun (s : Nat → Int32) => s k = r k) (N := ns) (fun z s hz e => by
    unfold grw
    split
    · exact (rs_off hk (by omega)).trans e
    · exact e) ns _ (Nat.le_refl _) rfl
  exact fo_ok (P := fun (s : Nat → Int32) => s k = r k) (N := np) (fun z s hz e => (rs_off hk (by omega)).trans e) np _ (Nat.le_refl _) a
theorem endR_off (hn : np ≤ 6) (hs : ns ≤ 10) {k : Nat} (hk : offR k) : endR np ns r k = r k := by
  unfold endR
  split
  · rfl
  · split
    · exact (dwR_off hn hs hk).trans (rs_off hk (by omega))
    · exact rs_off hk (by omega)
theorem hrS_off {dr : Int32} (hn : np ≤ 6) (hs : ns ≤ 10) {k : Nat} (hk : offR k) : (hrS W dr np ns r).1 k = r k := (endR_off hn hs hk).trans (hrT_off hn hk)
/-- so many hours -/
def hrI (W : Option (List LL)) (dr : Int32) (np ns : Nat) : Nat → (Nat → Int32) → (Nat → Int32) × Int32
  | 0, r => (r, 0)
  | n + 1, r => ((hrS W dr np ns (hrI W dr np ns n r).1).1, (hrI W dr np ns n r).2 + (hrS W dr np ns (hrI W dr np ns n r).1).2)
theorem hrI_ok {dr : Int32} (hW : Wb W) (R : Rok r np ns nl) : ∀ n, Rok (hrI W dr np ns n r).1 np ns nl := by
  intro n
  induction n with
  | zero => exact R
  | succ n ih => exact hrS_ok hW ih
theorem hrI_off {dr : Int32} (hn : np ≤ 6) (hs : ns ≤ 10) {k : Nat} (hk : offR k) : ∀ n, (hrI W dr np ns n r).1 k = r k := by
  intro n
  induction n with
  | zero => rfl
  | succ n ih => exact (hrS_off hn hs hk).trans ih
theorem LR_off {r' : Nat → Int32} (L : LR r W) (e : ∀ k, offR k → r' k = r k) : LR r' W := LR_congr (fun k hk => e k (by unfold offR; omega)) L
theorem stp_c {dr : Int32} {s : (Nat → Int32) × Int32} : stp W dr x s = ((stp W dr x (s.1, 0)).1, s.2 + (stp W dr x (s.1, 0)).2) := by
  unfold stp
  dsimp only
  split
  · rw [Int32.add_zero]
  · split
    · rw [Int32.add_zero]
    · split
      · rw [Int32.zero_add]
      · rw [Int32.add_zero]
theorem fo_stp {dr c : Int32} : ∀ n, fo (stp W dr) n (r, c) = ((fo (stp W dr) n (r, 0)).1, c + (fo (stp W dr) n (r, 0)).2) := by
  intro n
  induction n with
  | zero => show (r, c) = (r, c + 0); rw [Int32.add_zero]
  | succ n ih =>
    show stp W dr n (fo (stp W dr) n (r, c)) = ((stp W dr n (fo (stp W dr) n (r, 0))).1, c + (stp W dr n (fo (stp W dr) n (r, 0))).2)
    rw [ih]
    generalize fo (stp W dr) n (r, 0) = s
    rw [stp_c (s := s), stp_c (s := (s.1, c + s.2))]
    dsimp only
    rw [Int32.add_assoc]
end
theorem and_lo (x : Int32) : ∃ m : Nat, m < 2 ^ 15 ∧ x &&& 32767 = nI m := by
  refine ⟨(x &&& 32767).toBitVec.toNat, ?_, ?_⟩
  · rw [Int32.toBitVec_and, BitVec.toNat_and]
    exact Nat.lt_of_le_of_lt Nat.and_le_right (by decide)
  · refine b_ext (fun i hi => ?_)
    rw [bt_nI hi]; rfl
theorem drw_lt (s : Int32) : drw s < 100 := by
  unfold drw
  obtain ⟨m, hm, e⟩ := and_lo (s.toUInt32 >>> ((16 : Int32).toUInt32 &&& Int32.toUInt32 31)).toInt32
  rw [e, show (100 : Int32) = nI 100 from rfl, pk_rem (by omega) (by decide) (by decide)]
  exact nI_lt (Nat.mod_lt _ (by decide)) (by decide)
/-- whether one is hurt, as the reference asks it -/
theorem isHt_r {W : Option (List LL)} {r : Nat → Int32} {np ns nl x : Nat} (hW : Wb W) (R : Rok r np ns nl) (hx : x < np) : isHt W r x ↔ drw (nxs (r 8)) < mn 100 (ask W (tirR W r x) x 2) := by
  obtain ⟨v, C⟩ := tir_ok hW hx R
  have ea : ask W (drR W r x) x 2 = ask W (tirR W r x) x 2 := ask_sd C hx
  have lt := drw_lt (nxs (r 8))
  show drw (nxs (r 8)) < askC W (drR W r x) x 2 ↔ _
  cases W with
  | none =>
    show drw (nxs (r 8)) < ask none (drR none r x) x 2 ↔ _
    rw [ea]
    unfold mn
    by_cases c : 100 < ask none (tirR none r x) x 2
    · rw [if_pos c]
      exact ⟨fun _ => lt, fun _ => Int32.lt_trans lt c⟩
    · rw [if_neg c]
  | some Ls =>
    show drw (nxs (r 8)) < (if 2 = 2 then (if ask (some Ls) (drR (some Ls) r x) x 2 < 100 then ask (some Ls) (drR (some Ls) r x) x 2 else 100) else ask (some Ls) (drR (some Ls) r x) x 2) ↔ _
    rw [if_pos rfl, ea, mn_c]
/-! passes -/
def PP (h : mxH) (i1 : Int32) (q : Option (List LL) × Nat × Nat × Nat × Nat) : Prop := Rok (mx_i h 382) q.2.1 q.2.2.1 q.2.2.2.1 ∧ LR (mx_i h 382) q.1 ∧ q.2.2.2.2 ≤ 200 ∧ i1 = nI q.2.2.2.2
def okP (h : mxH) (i1 : Int32) : Prop := ∃ q, PP h i1 q
def p241 (i1 i2 : Int32) (h : mxH) (y : Int32) (h1 : mxH) : Prop := frW h h1 ∧ ∀ W np ns nl n, Rok (mx_i h 382) np ns nl → LR (mx_i h 382) W → n ≤ 200 → i1 = nI n → mx_i h1 382 = (hrI W i2 np ns n (mx_i h 382)).1 ∧ y = (hrI W i2 np ns n (mx_i h 382)).2
section
variable {d np ns nl : Nat} {h0 : mxH} {Q : mxO → mxH → Prop} {W : Option (List LL)} {dr : Int32}
theorem H241c {s0 : (Nat → Int32) × Int32} {n k : Nat} (R0 : Rok s0.1 np ns nl) (L0 : LR s0.1 W) (fin : ∀ h1, mxG h1 → frW h0 h1 → mx_i h1 382 = endR np ns (fo (stp W dr) np s0).1 → H_241_4 (d + 35) h1 (nI n) dr (fo (stp W dr) np s0).2 (nI k + 1) Q) : ∀ (m i : Nat) (h : mxH), m + i = np → mxG h → frW h0 h → mx_i h 382 = (fo (stp W dr) i s0).1 → H_241_22 (d + 35) h (nI n) dr (fo (stp W dr) i s0).2 (nI k) (nI i) Q := by
  have hW := LR_b L0
  intro m
  induction m with
  | zero =>
    intro i h hm G U e
    have hi : i = np := by omega
    subst hi
    have R : Rok (mx_i h 382) i ns nl := by rw [e]; exact fo_ok (P := fun (s : (Nat → Int32) × Int32) => Rok s.1 i ns nl) (N := i) (fun z s hz R => stp_ok hW hz R) i _ (Nat.le_refl _) R0
    have R1 := R
    obtain ⟨v, C⟩ := R
    obtain ⟨hh, aa, rfl⟩ := vw_ex v
    rw [← e] at fin
    refine tr_241_22 G ⟨fun c => ?_, fun _ => ⟨fun c => fin h G U ?_, fun c h3 e3 => ?_⟩⟩
    · rw [C_np C] at c
      exact absurd c Int32.lt_irrefl
    · unfold endR; rw [if_pos c]
    · have U3 : frW h h3 := by rw [e3]; exact frW_m
      have m3 : mx_i h3 382 = rs (mx_i h 382) 5 (mx_i h 382 5 + 1) := by rw [e3, m_wi]
      have h5 : mx_i h3 382 5 = mx_i h 382 5 + 1 := by rw [m3, rs_at]
      rw [h5]
      have G3 := mxK_G U3.1 G
      have R3 : Rok (mx_i h3 382) i ns nl := by rw [m3]; exact ⟨_, CpN_hr C (hour_R C.2.1.2.2.2.2.2.1 c)⟩
      refine ⟨fun q => ⟨⟨(i, ns, nl), R3⟩, fun h9 u9 => fin h9 (mxK_G u9.1.1 G3) (frW_tr (frW_tr U U3) u9.1) ?_⟩, fun q => fin h3 G3 (frW_tr U U3) ?_⟩
      · rw [u9.2 i ns nl R3, m3]
        unfold endR
        rw [if_neg c, if_pos q]
      · rw [m3]
        unfold endR
        rw [if_neg c, if_neg q]
  | succ m ih =>
    intro i h hm G U e
    have hx : i < np := by omega
    have R : Rok (mx_i h 382) np ns nl := by rw [e]; exact fo_ok (P := fun (s : (Nat → Int32) × Int32) => Rok s.1 np ns nl) (N := np) (fun z s hz R => stp_ok hW hz R) i _ (by omega) R0
    have n6 : np ≤ 6 := by obtain ⟨v, C⟩ := R; exact C_np6 C
    have L : LR (mx_i h 382) W := by
      refine LR_off L0 (fun k hk => ?_)
      rw [e]
      exact fo_ok (P := fun (s : (Nat → Int32) × Int32) => s.1 k = s0.1 k) (N := np) (fun z s hz e => (stp_off (by omega) hk).trans e) i _ (by omega) rfl
    have sx : fo (stp W dr) (i + 1) s0 = stp W dr i (fo (stp W dr) i s0) := rfl
    have nx := fun h => ih (i + 1) h (by omega)
    rw [sx] at nx
    generalize fo (stp W dr) i s0 = s at e nx ⊢
    have R1 := R
    obtain ⟨v, C⟩ := R
    obtain ⟨hh, aa, rfl⟩ := vw_ex v
    have x100 : i < 100 := by omega
    refine tr_241_22 G ⟨fun _ => ⟨vpU (by omega), ?_⟩, fun c => absurd (by rw [C_np C]; exact nI_lt hx (by omega)) c⟩
    rw [u5 x100, e, nI_1]
    refine ⟨fun c => ?_, fun c => ⟨⟨(W, np, ns, nl, i), R1, L, hx, rfl⟩, fun h16 u16 => ⟨vpU (by omega), fun h20 e20 => ?_⟩⟩⟩
    · have es : stp W dr i s = s := by unfold stp; rw [if_pos c]
      have := nx h G U (by rw [es]; exact e)
      rw [es] at this
      exact this
    · have m16 := frQ_m u16.1
      have e17 := u16.2 W np ns nl i R1 L hx rfl 0 (by decide)
      rw [show mx_i h16 381 17 = _ from e17, m16, u4 x100, v192_mn, show (4 : Int32) = nI 4 from rfl, W197_e x100 4 (by decide)] at e20
      have U20 : frW h h20 := frW_tr (frW_Q u16.1) (by rw [e20]; exact frW_m)
      have m20 : mx_i h20 382 = tirR W s.1 i := by rw [e20, m_wi, m16, e]; rfl
      have R20 : Rok (mx_i h20 382) np ns nl := by rw [m20, ← e]; exact tir_ok hW hx R1
      have L20 : LR (mx_i h20 382) W := LR_off L (fun k hk => by rw [m20, e]; exact tir_off (by omega) hk)
      have G20 := mxK_G U20.1 G
      refine ⟨⟨(W, np, ns, nl, i), R20, L20, hx, rfl⟩, fun h26 u26 => ?_⟩
      have m26 := (frQ_m u26.1).trans m20
      have U26 := frW_tr U20 (frW_Q u26.1)
      have G26 := mxK_G u26.1.1 G20
      have e19 := u26.2 W np ns nl i R20 L20 hx rfl 2 (by decide)
      rw [m20] at e19
      refine ⟨fun d0 => ?_, fun d0 => ⟨by decide, fun h31 e31 => ?_⟩⟩
      · have es : stp W dr i s = (tirR W s.1 i, s.2) := by unfold stp; rw [if_neg c, if_pos d0]
        have := nx h26 G26 (frW_tr U U26) (by rw [es]; exact m26)
        rw [es] at this
        exact this
      · unfold W_238 at e31
        have s8 : mx_i h26 382 8 = s.1 8 := by rw [m26]; exact rs_ne (by omega)
        rw [s8] at e31
        have m31 : mx_i h31 382 = drR W s.1 i := by rw [e31, m_wi, m26]; rfl
        have t31 : mx_i h31 381 19 = ask W (tirR W s.1 i) i 2 := by rw [e31, wi_ne (by decide)]; exact e19
        have U31 : frW h26 h31 := by rw [e31]; exact frW_m
        have G31 := mxK_G U31.1 G26
        have vd : V_238 h26 100 = drw (nxs (s.1 8)) := by
          unfold V_238
          rw [wi_at rfl rfl, s8]; rfl
        rw [vd, t31, v192_mn]
        have iff := isHt_r (W := W) (r := s.1) hW (by rw [← e]; exact R1) hx
        refine ⟨fun q h36 e36 => ?_, fun q => ?_⟩
        · have es : stp W dr i s = (rs (drR W s.1 i) (33 + 6 * i + 5) 1, s.2 + 1) := by unfold stp; rw [if_neg c, if_neg d0, if_pos (iff.mpr q)]
          rw [show (5 : Int32) = nI 5 from rfl, W197_e x100 5 (by decide)] at e36
          have U36 : frW h31 h36 := by rw [e36]; exact frW_m
          have := nx h36 (mxK_G U36.1 G31) (frW_tr U (frW_tr (frW_tr U26 U31) U36)) (by rw [es, e36, m_wi, m31])
          rw [es] at this
          exact this
        · have es : stp W dr i s = (drR W s.1 i, s.2) := by unfold stp; rw [if_neg c, if_neg d0, if_neg (fun y => q (iff.mp y))]
          have := nx h31 G31 (frW_tr U (frW_tr U26 U31)) (by rw [es]; exact m31)
          rw [es] at this
          exact this
theorem H241b {r0 : Nat → Int32} {n k : Nat} {c : Int32} (R0 : Rok r0 np ns nl) (L0 : LR r0 W) (fin : ∀ h1, mxG h1 → frW h0 h1 → mx_i h1 382 = fo (fun x r => wlkR W r x) np r0 → H_241_22 (d + 35) h1 (nI n) dr c (nI k) 0 Q) : ∀ (m i : Nat) (h : mxH), m + i = np → mxG h → frW h0 h → mx_i h 382 = fo (fun x r => wlkR W r x) i r0 → H_241_9 (d + 35) h (nI n) dr c (nI k) (nI i) Q := by
  have hW := LR_b L0
  intro m
  induction m with
  | zero =>
    intro i h hm G U e
    have hi : i = np := by omega
    subst hi
    have R : Rok (mx_i h 382) i ns nl := by rw [e]; exact fo_ok (P := fun s => Rok s i ns nl) (N := i) (fun z s hz R => wlk_ok hW hz R) i _ (Nat.le_refl _) R0
    obtain ⟨v, C⟩ := R
    refine tr_241_9 G ⟨fun c => ?_, fun _ => fin h G U e⟩
    rw [C_np C] at c
    exact absurd c Int32.lt_irrefl
  | succ m ih =>
    intro i h hm G U e
    have hx : i < np := by omega
    have R : Rok (mx_i h 382) np ns nl := by rw [e]; exact fo_ok (P := fun s => Rok s np ns nl) (N := np) (fun z s hz R => wlk_ok hW hz R) i _ (by omega) R0
    have n6 : np ≤ 6 := by obtain ⟨v, C⟩ := R; exact C_np6 C
    have L : LR (mx_i h 382) W := by
      refine LR_off L0 (fun k hk => ?_)
      rw [e]
      exact fo_ok (P := fun (s : Nat → Int32) => s k = r0 k) (N := np) (fun z s hz e => (wlk_off (by omega) hk).trans e) i _ (by omega) rfl
    have R1 := R
    obtain ⟨v, C⟩ := R
    refine tr_241_9 G ⟨fun _ => ⟨⟨(W, np, ns, nl, i), R1, L, hx, rfl⟩, fun h4 u4 => ?_⟩, fun c => absurd (by rw [C_np C]; exact nI_lt hx (by omega)) c⟩
    rw [nI_1]
    refine ih (i + 1) h4 (by omega) (mxK_G u4.1.1 G) (frW_tr U u4.1) ?_
    rw [u4.2 W np ns nl i R1 L hx rfl, e]
    rfl
theorem H241a {r0 : Nat → Int32} {n : Nat} (hn : n ≤ 200) (R0 : Rok r0 np ns nl) (L0 : LR r0 W) (fin : ∀ h1, frW h0 h1 → mx_i h1 382 = (hrI W dr np ns n r0).1 → Q (.inl (some (.int (hrI W dr np ns n r0).2))) h1) : ∀ (m i : Nat) (h : mxH), m + i = n → mxG h → frW h0 h → mx_i h 382 = (hrI W dr np ns i r0).1 → H_241_4 (d + 35) h (nI n) dr (hrI W dr np ns i r0).2 (nI i) Q := by
  have hW := LR_b L0
  have nn : np ≤ 6 ∧ ns ≤ 10 := by obtain ⟨v, C⟩ := R0; exact ⟨C_np6 C, C_ns10 C⟩
  intro m
  induction m with
  | zero =>
    intro i h hm G U e
    have hi : i = n := by omega
    subst hi
    exact tr_241_4 G ⟨fun c => absurd c Int32.lt_irrefl, fun _ => fin h U e⟩
  | succ m ih =>
    intro i h hm G U e
    have nx := fun h => ih (i + 1) h (by omega)
    have ex : hrI W dr np ns (i + 1) r0 = ((hrS W dr np ns (hrI W dr np ns i r0).1).1, (hrI W dr np ns i r0).2 + (hrS W dr np ns (hrI W dr np ns i r0).1).2) := rfl
    rw [ex] at nx
    have R : Rok (mx_i h 382) np ns nl := by rw [e]; exact hrI_ok hW R0 i
    have L : LR (mx_i h 382) W := LR_off L0 (fun k hk => by rw [e]; exact hrI_off nn.1 nn.2 hk i)
    generalize hrI W dr np ns i r0 = s at e nx ⊢
    rw [e] at R L
    have hin : i < n := by omega
    refine tr_241_4 G ⟨fun _ => ?_, fun c => absurd (nI_lt hin (by omega)) c⟩
    refine H241b (W := W) (np := np) (ns := ns) (nl := nl) (h0 := h) (r0 := s.1) R L (fun h1 G1 U1 e1 => ?_) np 0 h rfl G frW_rfl e
    have R1 : Rok (fo (fun x r => wlkR W r x) np s.1) np ns nl := fo_ok (P := fun s => Rok s np ns nl) (N := np) (fun z s hz R => wlk_ok hW hz R) np _ (Nat.le_refl _) R
    have L1 : LR (fo (fun x r => wlkR W r x) np s.1) W := LR_off L (fun k hk => fo_ok (P := fun (t : Nat → Int32) => t k = s.1 k) (N := np) (fun z s hz e => (wlk_off (by omega) hk).trans e) np _ (Nat.le_refl _) rfl)
    refine H241c (W := W) (np := np) (ns := ns) (nl := nl) (h0 := h1) (s0 := (fo (fun x r => wlkR W r x) np s.1, s.2)) R1 L1 (fun h2 G2 U2 e2 => ?_) np 0 h1 rfl G1 frW_rfl e1
    rw [fo_stp] at e2 ⊢
    rw [nI_1]
    exact nx h2 G2 (frW_tr U (frW_tr U1 U2)) e2
end
theorem sp_241 {d : Nat} {h : mxH} {Q : mxO → mxH → Prop} {i1 i2 : Int32} (G : mxG h) (ok : okP h i1) (k : ∀ y h1, p241 i1 i2 h y h1 → Q (.inl (some (.int y))) h1) : mx_wp (d + 35) 241 0 (mx_fr 241 [.ref 381, .int i1, .int i2]) [] h Q := by
  refine all_mut (F := frW h) (R := fun q y h1 => mx_i h1 382 = (hrI q.1 i2 q.2.1 q.2.2.1 q.2.2.2.2 (mx_i h 382)).1 ∧ y = (hrI q.1 i2 q.2.1 q.2.2.1 q.2.2.2.2 (mx_i h 382)).2) ok (fun q pq => ?_) (fun y h1 f r => k y h1 ⟨f, fun W np ns nl n a1 a2 a3 a4 => by
    have z := r (W, np, ns, nl, n) ⟨a1, a2, a3, a4⟩
    dsimp only at z
    exact z⟩)
  obtain ⟨W, np, ns, nl, n⟩ := q
  obtain ⟨R, L, hn, en⟩ := pq
  have R : Rok (mx_i h 382) np ns nl := R
  have L : LR (mx_i h 382) W := L
  have hn : n ≤ 200 := hn
  have en : i1 = nI n := en
  dsimp only
  subst en
  refine tr_241_0 G ?_
  exact H241a (W := W) (np := np) (ns := ns) (nl := nl) (h0 := h) (r0 := mx_i h 382) hn R L (fun h1 U e => ⟨_, rfl, U, e, rfl⟩) n 0 h rfl G frW_rfl rfl
