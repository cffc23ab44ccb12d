/-! SPECS by hand, 31: stones and told numbers of a text: the reference -/
def p222 (i1 lo hi : Int32) (h h1 : mxH) : Prop := frM h h1 ∧ ∀ T n p np ns k, Rd h T n p → k < 769 → i1 = nI k → outM h T n (vTel T n (mx_i h 382) np ns k lo hi p) h1
theorem sp_222 {d : Nat} {h : mxH} {Q : mxO → mxH → Prop} {i1 i2 i3 : Int32} (G : mxG h) (ok : okT h) (hf : mx_i h 381 12 = -1) (oki : cB i1 768) (k : ∀ h1, p222 i1 i2 i3 h h1 → Q (.inl none) h1) : mx_wp (d + 4) 222 0 (mx_fr 222 [.ref 381, .int i1, .int i2, .int i3]) [] h Q := by
  obtain ⟨T, n, p, R⟩ := ok
  obtain ⟨kk, hkk, ekk⟩ := oki
  have hn := R.1
  have hp := R.2.1
  have skn : sk T n p ≤ n := sk_le hp
  have fin : ∀ h1, outM h T n (vTel T n (mx_i h 382) 0 0 kk i2 i3 p) h1 → Q (.inl none) h1 := by
    intro h1 o
    refine k h1 ⟨outM_fr o, fun T' n' p' np' ns' k' R' hk' e' => ?_⟩
    obtain ⟨rfl, rfl, rfl⟩ := Rd_uniq R R'
    obtain rfl : k' = kk := ((nI_eq (by omega) (by omega)).mp (ekk.symm.trans e')).symm
    unfold vTel at o ⊢
    match nb T' n' i2 i3 p', o with
    | .inl e, o => exact o
    | .inr x, o => exact o
  unfold vTel at fin
  refine tr_222_0 G ⟨⟨T, n, p, R⟩, fun x2 h3 u3 => ?_⟩
  rcases R_nb u3 hf R with ⟨v, q, e, ex, eh⟩ | ⟨e, q, hq, eh⟩
  · simp only [bnd, e] at fin
    have kq := (nb_pr hp e).2.2
    have f3 : mx_i h3 381 12 = -1 := by rw [eh]; exact f_at.trans hf
    refine ⟨fun _ => ⟨by rw [ekk]; exact vp_in_nI (by omega) (by decide), fun h8 e8 => fin h8 ?_⟩, fun c => absurd f3 c⟩
    rw [ekk, nI_clamp (by omega), ex] at e8
    refine ⟨by rw [e8, eh]; exact mxK_tr mxK_wi mxK_wi, fun b b1 b2 => by rw [e8, wi_ne b2, eh, wi_ne b1], ?_, fun z hz => by rw [e8, wi_ne (by decide), eh, wi_nj hz], q, kq, rfl, by rw [e8, wi_ne (by decide), eh, wi_at rfl rfl]⟩
    rw [e8, m_wi, eh, wi_ne (by decide)]
  · simp only [bnd, e] at fin
    have b3 : bad h n (sk T n p) h3 := ⟨q, hq, eh⟩
    have nf : ¬ mx_i h3 381 12 = -1 := bad_f (by omega) b3
    exact ⟨fun c => absurd c nf, fun _ => fin _ b3⟩
theorem nbx_e {T : Nat → Int32} {n np p e : Nat} {one : Int32} (hp : p ≤ n) (h : nbx T n np one p = .inl e) : e ≤ n := by
  unfold nbx at h
  match hh : nb T n 0 (nI np - 1) p with
  | .inl e2 =>
    rw [hh] at h
    cases h
    exact (nb_e hp hh).2
  | .inr (v, q) =>
    rw [hh] at h
    simp only [bnd] at h
    split at h
    · cases h; exact sk_le hp
    · cases h
def p219 (i1 : Int32) (h h1 : mxH) : Prop := frM h h1 ∧ ∀ T n p np ns e, Rd h T n p → np ≤ 6 → ns ≤ 10 → mx_i h 382 3 = nI np → mx_i h 382 4 = nI ns → i1 = nI e → e ≤ n → outM h T n (if ns = 10 then .inl e else vSt0 T n (mx_i h 382) np ns p) h1
theorem sp_219 {d : Nat} {h : mxH} {Q : mxO → mxH → Prop} {i1 : Int32} (G : mxG h) (ok : okT h) (hf : mx_i h 381 12 = -1) (okp : cB (mx_i h 382 3) 6) (oks : cB (mx_i h 382 4) 10) (oki : cB i1 400) (k : ∀ h1, p219 i1 h h1 → Q (.inl none) h1) : mx_wp (d + 6) 219 0 (mx_fr 219 [.ref 381, .int i1]) [] h Q := by
  obtain ⟨T, n, p, R⟩ := ok
  obtain ⟨np, hnp, enp⟩ := okp
  obtain ⟨ns, hns, ens⟩ := oks
  obtain ⟨be, hbe, ebe⟩ := oki
  have hn := R.1
  have hp := R.2.1
  have ns10 : nI ns = 10 ↔ ns = 10 := by rw [show (10 : Int32) = nI 10 from rfl]; exact nI_eq (by omega) (by omega)
  have cp : ∀ {hx : mxH}, mx_i hx 382 = mx_i h 382 → cB (mx_i hx 382 3) 6 := fun {hx} e => ⟨np, hnp, by rw [e]; exact enp⟩
  by_cases c10 : ns = 10
  · have fin : ∀ h1, bad h n be h1 → Q (.inl none) h1 := by
      intro h1 b
      refine k h1 ⟨frM_bad b, fun T' n' p' np' ns' e' R' hn' hs' en' es' ei' he' => ?_⟩
      obtain ⟨rfl, rfl, rfl⟩ := Rd_uniq R R'
      obtain rfl : ns' = ns := ((nI_eq (by omega) (by omega)).mp (ens.symm.trans es')).symm
      obtain rfl : e' = be := ((nI_eq (by omega) (by omega)).mp (ebe.symm.trans ei')).symm
      rw [if_pos c10]
      exact b
    refine tr_219_0 G ⟨fun _ h68 e68 => ?_, fun c => absurd (by rw [ens]; exact ns10.mpr c10) c⟩
    rw [W213f hf, ebe] at e68
    have b68 : bad h n be h68 := ⟨p, hp, by rw [e68, wi_id R.2.2.2.1]⟩
    refine ⟨bad_R R b68, fun x73 h74 u74 => ?_⟩
    have i74 : h74 = h68 := (u74.2.1 (bad_f (by omega) b68)).2
    subst i74
    refine ⟨bad_R R b68, by omega, fun x79 h80 u80 => ?_⟩
    have i80 := bad_216 (by omega) b68 u80
    subst i80
    refine ⟨bad_R R b68, by omega, cp (bad_382 b68), fun x86 h87 u87 => ?_⟩
    have b87 := bad_218 (by omega) R b68 u87
    have nf : ¬ mx_i h87 381 12 = -1 := bad_f (by omega) b87
    exact ⟨fun c => absurd c nf, fun _ => ⟨fun c => absurd c nf, fun _ => fin _ b87⟩⟩
  · have n10 : ns < 10 := by omega
    have fin : ∀ h1, outM h T n (vSt0 T n (mx_i h 382) np ns p) h1 → Q (.inl none) h1 := by
      intro h1 o
      refine k h1 ⟨outM_fr o, fun T' n' p' np' ns' e' R' hn' hs' en' es' ei' he' => ?_⟩
      obtain ⟨rfl, rfl, rfl⟩ := Rd_uniq R R'
      obtain rfl : np' = np := ((nI_eq (by omega) (by omega)).mp (enp.symm.trans en')).symm
      obtain rfl : ns' = ns := ((nI_eq (by omega) (by omega)).mp (ens.symm.trans es')).symm
      rw [if_neg c10]
      exact o
    unfold vSt0 at fin
    refine tr_219_0 G ⟨fun c => absurd (ns10.mp (ens.symm.trans c)) c10, fun _ => ⟨⟨T, n, p, R⟩, fun x3 h4 u4 => ?_⟩⟩
    rcases R_nb u4 hf R with ⟨v1, q1, e1, ex1, eh1⟩ | ⟨e1, q1, hq1, eh1⟩
    · rw [e1] at fin
      have fin : ∀ h1, outM h T n (bnd (bnd (wd T n 4 q1) (fun q => nb T n 0 (nI np - 1) q)) (fun x3 => bnd (bnd (wd T n 5 x3.2) (fun q => nbx T n np x3.1 q)) (fun x5 => if wrd T n 6 x5.2 = true then bnd (bnd (wd T n 7 (sk T n x5.2 + wl 6)) (fun q => nbx T n np x5.1 q)) (fun x7 => .inr (stoR (mx_i h 382) ns x3.1 x5.1 v1 x7.1, np, ns + 1, x7.2)) else .inr (stoR (mx_i h 382) ns x3.1 x5.1 v1 x3.1, np, ns + 1, x5.2)))) h1 → Q (.inl none) h1 := fin
      obtain ⟨r1, l1, k1⟩ := nb_pr hp e1
      have R4 : Rd h4 T n q1 := by rw [eh1]; exact Rd_at R k1
      have f4 : mx_i h4 381 12 = -1 := by rw [eh1]; exact f_at.trans hf
      have m4 : mx_i h4 382 = mx_i h 382 := by rw [eh1]; exact wi_ne (by decide)
      rw [m4, enp]
      refine ⟨⟨T, n, q1, R4⟩, by omega, fun x9 h10 u10 => ?_⟩
      have o10 := u10.2.2 f4 T n q1 4 R4 (by decide) rfl
      match hb1 : bnd (wd T n 4 q1) (fun q => nb T n 0 (nI np - 1) q), o10 with
      | .inl e, o10 =>
        rw [hb1] at fin
        have he : e ≤ n := by
          unfold bnd at hb1
          split at hb1
          · rename_i e' hw
            cases hb1
            exact (wd_e k1 hw).2
          · rename_i q' hw
            exact (nb_e (wd_pr (by decide) hw).2 hb1).2
        have b10 : bad h n e h10 := bad_at (q := q1) (by rw [← eh1]; exact o10)
        refine ⟨bad_R R b10, by omega, cp (bad_382 b10), fun x16 h17 u17 => ?_⟩
        have b17 := bad_218 (by omega) R b10 u17
        have nf : ¬ mx_i h17 381 12 = -1 := bad_f (by omega) b17
        exact ⟨fun c => absurd c nf, fun _ => ⟨fun c => absurd c nf, fun _ => fin _ b17⟩⟩
      | .inr (v3, q3), o10 =>
        obtain ⟨ex3, eh3⟩ := o10
        rw [eh1, wi_wi] at eh3
        rw [hb1] at fin
        have fin : ∀ h1, outM h T n (bnd (bnd (wd T n 5 q3) (fun q => nbx T n np v3 q)) (fun x5 => if wrd T n 6 x5.2 = true then bnd (bnd (wd T n 7 (sk T n x5.2 + wl 6)) (fun q => nbx T n np x5.1 q)) (fun x7 => .inr (stoR (mx_i h 382) ns v3 x5.1 v1 x7.1, np, ns + 1, x7.2)) else .inr (stoR (mx_i h 382) ns v3 x5.1 v1 v3, np, ns + 1, x5.2))) h1 → Q (.inl none) h1 := fin
        have k3 : q3 ≤ n := by
          unfold bnd at hb1
          split at hb1
          · cases hb1
          · rename_i q' hw
            exact (nb_pr (wd_pr (by decide) hw).2 hb1).2.2
        have R10 : Rd h10 T n q3 := by rw [eh3]; exact Rd_at R k3
        have f10 : mx_i h10 381 12 = -1 := by rw [eh3]; exact f_at.trans hf
        have m10 : mx_i h10 382 = mx_i h 382 := by rw [eh3]; exact wi_ne (by decide)
        refine ⟨⟨T, n, q3, R10⟩, by omega, cp m10, fun x16 h17 u17 => ?_⟩
        rw [ex3] at u17
        have o17 := u17.2.2 f10 T n q3 5 np R10 (by decide) rfl hnp (by rw [m10]; exact enp)
        match hb2 : bnd (wd T n 5 q3) (fun q => nbx T n np v3 q), o17 with
        | .inl e, o17 =>
          rw [hb2] at fin
          have he : e ≤ n := by
            unfold bnd at hb2
            split at hb2
            · rename_i e' hw
              cases hb2
              exact (wd_e k3 hw).2
            · rename_i q' hw
              exact nbx_e (wd_pr (by decide) hw).2 hb2
          have b17 : bad h n e h17 := bad_at (q := q3) (by rw [← eh3]; exact o17)
          have nf : ¬ mx_i h17 381 12 = -1 := bad_f (by omega) b17
          exact ⟨fun c => absurd c nf, fun _ => ⟨fun c => absurd c nf, fun _ => fin _ b17⟩⟩
        | .inr (v5, q5), o17 =>
          obtain ⟨ex5, eh5⟩ := o17
          rw [eh3, wi_wi] at eh5
          rw [hb2] at fin
          have fin : ∀ h1, outM h T n (if wrd T n 6 q5 = true then bnd (bnd (wd T n 7 (sk T n q5 + wl 6)) (fun q => nbx T n np v5 q)) (fun x7 => .inr (stoR (mx_i h 382) ns v3 v5 v1 x7.1, np, ns + 1, x7.2)) else .inr (stoR (mx_i h 382) ns v3 v5 v1 v3, np, ns + 1, q5)) h1 → Q (.inl none) h1 := fin
          have k5 : q5 ≤ n := by
            unfold bnd at hb2
            split at hb2
            · cases hb2
            · rename_i q' hw
              exact (nbx_pr hnp (wd_pr (by decide) hw).2 hb2).2.2.2
          have R17 : Rd h17 T n q5 := by rw [eh5]; exact Rd_at R k5
          have f17 : mx_i h17 381 12 = -1 := by rw [eh5]; exact f_at.trans hf
          refine ⟨fun _ => ⟨⟨T, n, q5, R17⟩, by omega, fun x34 h35 u35 => ?_⟩, fun c => absurd f17 c⟩
          rcases R_wd (k := 6) (by decide) u35 R17 with ⟨q6, e6, w6, ne6, eq6, eh6⟩ | ⟨e6, w6, ex6, eh6⟩
          · rw [if_pos w6, ← eq6] at fin
            rw [eh5, wi_wi] at eh6
            have k6 := (wd_pr (by decide) e6).2
            have R35 : Rd h35 T n q6 := by rw [eh6]; exact Rd_at R k6
            have f35 : mx_i h35 381 12 = -1 := by rw [eh6]; exact f_at.trans hf
            have m35 : mx_i h35 382 = mx_i h 382 := by rw [eh6]; exact wi_ne (by decide)
            refine ⟨fun c => absurd c ne6, fun _ => ⟨⟨T, n, q6, R35⟩, by omega, cp m35, fun x53 h54 u54 => ?_⟩⟩
            rw [ex5] at u54
            have o54 := u54.2.2 f35 T n q6 7 np R35 (by decide) rfl hnp (by rw [m35]; exact enp)
            match hb3 : bnd (wd T n 7 q6) (fun q => nbx T n np v5 q), o54 with
            | .inl e, o54 =>
              rw [hb3] at fin
              have he : e ≤ n := by
                unfold bnd at hb3
                split at hb3
                · rename_i e' hw
                  cases hb3
                  exact (wd_e k6 hw).2
                · rename_i q' hw
                  exact nbx_e (wd_pr (by decide) hw).2 hb3
              have b54 : bad h n e h54 := bad_at (q := q6) (by rw [← eh6]; exact o54)
              have nf : ¬ mx_i h54 381 12 = -1 := bad_f (by omega) b54
              exact ⟨fun c => absurd c nf, fun _ => fin _ b54⟩
            | .inr (v7, q7), o54 =>
              obtain ⟨ex7, eh7⟩ := o54
              rw [eh6, wi_wi] at eh7
              rw [hb3] at fin
              have k7 : q7 ≤ n := by
                unfold bnd at hb3
                split at hb3
                · cases hb3
                · rename_i q' hw
                  exact (nbx_pr hnp (wd_pr (by decide) hw).2 hb3).2.2.2
              have f54 : mx_i h54 381 12 = -1 := by rw [eh7]; exact f_at.trans hf
              have m54 : mx_i h54 382 = mx_i h 382 := by rw [eh7]; exact wi_ne (by decide)
              refine ⟨fun _ => ?_, fun c => absurd f54 c⟩
              refine t219 (by rw [m54]; exact ens) n10 (fun hF KF UF mF => fin hF ?_)
              rw [m54, ex1, ex3, ex5, ex7] at mF
              refine ⟨mxK_tr (by rw [eh7]; exact mxK_wi) KF, fun b b1 b2 => ?_, mF, fun z hz => ?_, q7, k7, rfl, ?_⟩
              · rw [UF b b2, eh7, wi_ne b1]
              · rw [UF 381 (by decide), eh7, wi_nj hz]
              · rw [UF 381 (by decide), eh7, wi_at rfl rfl]
          · rw [if_neg w6] at fin
            rw [eh5, wi_wi] at eh6
            have f35 : mx_i h35 381 12 = -1 := by rw [eh6]; exact f_at.trans hf
            have m35 : mx_i h35 382 = mx_i h 382 := by rw [eh6]; exact wi_ne (by decide)
            refine ⟨fun _ => ⟨fun _ => ?_, fun c => absurd f35 c⟩, fun c => absurd ex6 c⟩
            refine t219 (by rw [m35]; exact ens) n10 (fun hF KF UF mF => fin hF ?_)
            rw [m35, ex1, ex3, ex5] at mF
            refine ⟨mxK_tr (by rw [eh6]; exact mxK_wi) KF, fun b b1 b2 => ?_, mF, fun z hz => ?_, sk T n q5, sk_le k5, skk _, ?_⟩
            · rw [UF b b2, eh6, wi_ne b1]
            · rw [UF 381 (by decide), eh6, wi_nj hz]
            · rw [UF 381 (by decide), eh6, wi_at rfl rfl]
    · rw [e1] at fin
      have b4 : bad h n (sk T n p) h4 := ⟨q1, hq1, eh1⟩
      have := sk_le (T := T) hp
      refine ⟨bad_R R b4, by omega, fun x9 h10 u10 => ?_⟩
      have i10 := bad_216 (by omega) b4 u10
      subst i10
      refine ⟨bad_R R b4, by omega, cp (bad_382 b4), fun x16 h17 u17 => ?_⟩
      have b17 := bad_218 (by omega) R b4 u17
      have nf : ¬ mx_i h17 381 12 = -1 := bad_f (by omega) b17
      exact ⟨fun c => absurd c nf, fun _ => ⟨fun c => absurd c nf, fun _ => fin _ b17⟩⟩
