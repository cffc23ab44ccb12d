/-! THE LAW'S START, 3: the context of the law's body (written by gen_start.py) -/
theorem mx_ld_ev : ∀ q ∈ mxLDt, 30 ≤ q.2.2 ∧ q.2.2 % 2 = 0 := by decide
theorem mx_ga_0 {b tW : Nat} {ad aK aV : Nat → Nat} (j : Nat) : mx_ga b 0 ad aK aV (3 + j) = mx_ga b tW ad aK aV (3 + j) := by
  unfold mx_ga
  rw [if_neg (by omega), if_neg (by omega), if_neg (show ¬ 3 + j = 1 by omega), if_neg (show ¬ 3 + j = 2 by omega)]
set_option maxHeartbeats 4000000 in
theorem mx_start {p : Program} {l : Launch} {s : State} {m : MethodId} {meth : Method} {c : Code} {b L : Nat} {xs : Nat → Int32} (hall : ∀ y, y < 347 → mx_ok y = true) (hl : l.stackTraces = false) (hx : p.tables.exec = Jvm.exec) (hb : c.code = mxB 346) (hr : meth.sig.returnType = mxR 346) (hml : c.maxLocals = mxL 346) (hown : s.vm.findClass (mxCn (mxOw 346)) = some m.cls) (hts : ∀ w ∈ lw_tbl, w.before #[Value.ref b] s = true) (hX : va_X b L xs s s.heap) (hbl : b < s.heap.size) (hlocks : meth.locks = false) (hgv : (Jvm.Cond.and given_1 narrow_1).before #[Value.ref b] s = true) (hname : meth.name = (mxN 346).name) (htab : c.exceptionTable.toList = tableOf (mxHh 346)) :
    ∃ G : mxGl, g_N G = s.heap.size ∧ g_x G = xs ∧ g_L G = L ∧ g_a G 1 = b ∧ mx_Cx G p l s m meth c 346 := by
  have hn := mx_Hs_of hgv
  have hA : ∀ a : Nat, a < s.heap.size → ¬ (fun q : Nat => s.heap.size ≤ q) a := fun a h1 h2 => Nat.not_le_of_lt h1 h2
  obtain ⟨qS, hqS⟩ := mx_choose (0, 0) (mx_qS hn hA)
  obtain ⟨ad, hw⟩ := mx_choose 0 (mx_uS (sa := fun k => (qS k).1) hts hn (fun k hk => (hqS k hk).1) hA)
  obtain ⟨tW, hW1, hW2⟩ := mx_WS (ad := fun j => mx_ga b 0 ad (fun k => (qS k).1) (fun k => (qS k).2) (3 + j)) hts hn (fun k hk => by rw [mx_ga_w hk]; exact (hw k hk).1) hA
  obtain ⟨D, hD⟩ := mx_cls_of hts
  obtain ⟨cA, a0, a1, a2, a3, a4⟩ := mx_arrs hts
  have hcs : va_Z "java/lang/String" "COMPACT_STRINGS" "Z" (.int 1) (fun q : Nat => s.heap.size ≤ q) s s.heap := va_Zof (hts _ (mx_Wt3 183 rfl)) (hts _ (mx_Wt1 12 rfl)) (va_eqv (mx_f1 hn 33 rfl) rfl) hA
  have hsi : ∃ v : Value, (v = .null ∨ ∃ a, v = .ref a) ∧ va_Z "jdk/internal/util/Preconditions" "SIOOBE_FORMATTER" "Ljava/util/function/BiFunction;" v (fun q : Nat => s.heap.size ≤ q) s s.heap := by
    rcases va_Zqof (hts _ (mx_Wt3 207 rfl)) (hts _ (mx_Wt1 14 rfl)) (mx_f1 hn 34 rfl) hA with h | ⟨t, h⟩
    · exact ⟨_, Or.inl rfl, h⟩
    · exact ⟨_, Or.inr ⟨t, rfl⟩, h⟩
  obtain ⟨gv, hv1, hv2⟩ := hsi
  have hU : vx_Zq Bundle.tN "UNASSIGNED_STACK" Bundle.steD (fun q : Nat => s.heap.size ≤ q) s s.heap := vx_Zqof (hts _ (mx_Wt4 124 rfl)) (hts _ (mx_Wt1 20 rfl)) (mx_f1 hn 90 rfl) hA
  have hN : vx_Zq Bundle.tN "SUPPRESSED_SENTINEL" Bundle.listD (fun q : Nat => s.heap.size ≤ q) s s.heap := vx_Zqof (hts _ (mx_Wt4 126 rfl)) (hts _ (mx_Wt1 20 rfl)) (mx_f1 hn 91 rfl) hA
  refine ⟨(s.heap.size, D, cA, mx_ga b tW ad (fun k => (qS k).1) (fun k => (qS k).2), gv, xs, L), rfl, rfl, rfl, rfl, hx, hb, hml, hown, ?_, ?_, hlocks, hr, hname, hv1, hl, htab, hall 346 (by decide), by decide⟩
  · refine ⟨fun w hw => mx_wk_0 (List.mem_filter.mp hw).2 (hts w (List.mem_filter.mp hw).1), ⟨hD, fun k q hq => ?_⟩, ⟨va_AO.of (hts _ (mx_Wt1 45 rfl)), va_AO.of (hts _ (mx_Wt2 107 rfl))⟩, fun q hq => ?_, mx_tss hts hn, mx_ncs hn⟩
    · match k, hq with
      | 0, hq => cases hq; exact a0
      | 1, hq => cases hq; exact a1
      | 2, hq => cases hq; exact a2
      | 3, hq => cases hq; exact a3
      | 4, hq => cases hq; exact a4
      | n + 5, hq => cases hq
    · obtain ⟨tx, h⟩ := mx_lds (sa := fun k => (qS k).1) hts hn (fun k hk => (hqS k hk).1) q hq
      obtain ⟨e1, e2⟩ := mx_ld_ev q hq
      refine ⟨tx, ?_⟩
      show vk_R _ _ _ (mx_ga b tW ad (fun k => (qS k).1) (fun k => (qS k).2) q.2.2) s
      unfold mx_ga
      rw [if_neg (by omega), if_neg (by omega), if_neg (by omega), if_pos e2]
      exact h
  · refine ⟨fun k hk => ?_, fun j k hj hk h => ?_, ⟨hW1, ?_⟩, fun k hk => ?_, ⟨hcs, hv2⟩, ⟨hU, hN⟩, hX, hbl, Nat.le_refl _⟩
    · obtain ⟨-, z1, z2, z3, z4, -⟩ := hw k hk
      show va_Z _ _ _ (.ref (mx_ga b tW ad (fun k => (qS k).1) (fun k => (qS k).2) (3 + k))) _ s s.heap ∧ va_O _ (mx_ga b tW ad (fun k => (qS k).1) (fun k => (qS k).2) (3 + k)) _ s s.heap ∧ va_OF _ _ _ (.ref (mx_ga b tW ad (fun k => (qS k).1) (fun k => (qS k).2) (30 + 2 * k))) (mx_ga b tW ad (fun k => (qS k).1) (fun k => (qS k).2) (3 + k)) _ s s.heap ∧ va_OF _ _ _ _ (mx_ga b tW ad (fun k => (qS k).1) (fun k => (qS k).2) (3 + k)) _ s s.heap
      rw [mx_ga_w hk, mx_ga_k]
      exact ⟨z1, z2, z3, z4⟩
    · have h9 : mx_ga b tW ad (fun k => (qS k).1) (fun k => (qS k).2) (3 + j) = mx_ga b tW ad (fun k => (qS k).1) (fun k => (qS k).2) (3 + k) := h
      rw [mx_ga_w hj, mx_ga_w hk] at h9
      have o1 := (hw j hj).2.2.2.2.2
      have o2 := (hw k hk).2.2.2.2.2
      rw [h9] at o1
      have e1 := va_OF_same o1 o2
      have e2 : Int32.ofNat j = Int32.ofNat k := Value.int.inj e1
      have e3 := congrArg Int32.toInt e2
      rw [Int32.toInt_ofNat_of_lt (by omega), Int32.toInt_ofNat_of_lt (by omega)] at e3
      omega
    · show va_T _ tW 26 (fun j => .ref (mx_ga b tW ad (fun k => (qS k).1) (fun k => (qS k).2) (3 + j))) _ s s.heap
      have e9 : (fun j : Nat => Value.ref (mx_ga b 0 ad (fun k => (qS k).1) (fun k => (qS k).2) (3 + j))) = fun j => Value.ref (mx_ga b tW ad (fun k => (qS k).1) (fun k => (qS k).2) (3 + j)) := funext fun j => by rw [mx_ga_0 j]
      rw [← e9]
      exact hW2
    · obtain ⟨-, z1, z2, z3, z4⟩ := hqS k hk
      show va_O _ (mx_ga b tW ad (fun k => (qS k).1) (fun k => (qS k).2) (30 + 2 * k)) _ s s.heap ∧ va_OF _ _ _ _ (mx_ga b tW ad (fun k => (qS k).1) (fun k => (qS k).2) (30 + 2 * k)) _ s s.heap ∧ va_OF _ _ _ (.ref (mx_ga b tW ad (fun k => (qS k).1) (fun k => (qS k).2) (31 + 2 * k))) (mx_ga b tW ad (fun k => (qS k).1) (fun k => (qS k).2) (30 + 2 * k)) _ s s.heap ∧ va_T _ (mx_ga b tW ad (fun k => (qS k).1) (fun k => (qS k).2) (31 + 2 * k)) _ _ _ s s.heap
      rw [mx_ga_k, mx_ga_v]
      refine ⟨z1, z2, z3, ?_⟩
      unfold mxSl mxSb
      rw [show (31 + 2 * k - 31) / 2 = k by omega]
      exact z4
