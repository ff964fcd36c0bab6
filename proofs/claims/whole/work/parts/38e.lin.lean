/-! text: a wind's line, a beetle's line -/
theorem wk_key : ∀ wm : Nat, wm < 64 → ∀ v : Nat, v < 6 → (((((Int32.ofNat wm) >>> ((Int32.ofNat v : Int32) &&& 31)) &&& 1) = 1 ↔ ¬ (((Int32.ofNat wm) >>> ((Int32.ofNat v : Int32) &&& 31)) &&& 1) = 0) ∧ ∃ w : Nat, w < 64 ∧ (Int32.ofNat wm ||| (1 <<< ((Int32.ofNat v : Int32) &&& 31))) = Int32.ofNat w) := by decide +kernel
noncomputable def R81 (u10 : zM) (v2 : Int32) : Option zM := zlet (zU u10 0 6 ((u10 0 6) ||| (1 <<< ((v2 : Int32) &&& 31)))) fun u11 => (f_X7_takes u11).bind fun r12 => zlet r12 fun u13 => (f_X7_readNumber u13 0 9).bind fun r14 => zlet r14.2 fun u15 => if z_in (35 + v2) 61 = true then zlet (zU u15 4 (Int32.toNatClampNeg (35 + v2)) r14.1) (fun u16 => some u16) else none
theorem bo81 {S : Nat → zM} {u : zM} (h : BO S u) {w : Nat} (hw : w < 6) : ∃ u', R81 u (Int32.ofNat w) = some u' ∧ BO S u' ∧ Fx u u' := by
  have h1 : BO S (zU u 0 6 ((u 0 6) ||| (1 <<< ((Int32.ofNat w : Int32) &&& 31)))) := h.keep (zu_j _ _ _ _ (by decide)) (zu_j _ _ _ _ (by decide))
  unfold R81
  simp only [zlet_eq]
  rw [h1.takes]
  simp only [Option.bind_some]
  rw [h1.num, show (35 : Int32) + Int32.ofNat w = Int32.ofNat (35 + w) from o_add 35 w]
  simp only [Option.bind_some]
  rw [if_pos (z_inN (by omega) (by decide)), o_cl (by omega)]
  exact ⟨_, rfl, h1.keep (by rw [zU_ne _ _ _ (by decide)]) (by rw [zU_ne _ _ _ (by decide)]), (Fx.c u (by decide) _).tr (Fx.d _ _ _)⟩
theorem ln_wind {t q P n : Nat} {S : Nat → zM} {u : zM} (h : PN t q S u) (hD : DR P n S u) : LR t q S u 5 := by
  obtain ⟨m, hm⟩ := FU4
  obtain ⟨d1, d2, d3, d4, d5, d6, d7, d8, ⟨wm, w1, w2, w3⟩, d10, d11, d12, d13, d14⟩ := id hD
  have hN : f_X5_numbersOf 5 = some 2 := by decide +kernel
  obtain ⟨T1, b, e, f1, hB, hK, hq⟩ := h
  have e43 : f_X5_takeLine_43 FU S 5 0 = (f_X5_takeNumber S 5 0).bind fun r14 => if r14.1 = true then f_X5_takeLine_43 (m + 1 + 1 + 1) r14.2 5 (0 + 1) else some (false, r14.2) := by
    rw [hm]
    exact tl_num (m + 1 + 1 + 1) S hN (show ¬ (2 : Int32) ≤ 0 by decide)
  have er : rlE u 5 = (f_X7_looked u 0 5).bind fun r7 => ((if (((r7.2 0 6) >>> ((r7.1 : Int32) &&& 31)) &&& 1) = 0 then f_X7_needs r7.2 1 4 else f_X7_needs r7.2 0 4).bind fun u10 => R81 u10 r7.1).bind fun r8 => lineE r8 := by
    unfold rlE f_X7_readLineOf f_X7_readLineOf_81 R81
    rw [if_neg (show ¬ (5 : Int32) = 4 by decide), if_pos rfl]
    cases f_X7_looked u 0 5 with
    | none => rfl
    | some r =>
      simp only [Option.bind_some, zlet_eq]
      rw [show zb true = 1 from rfl, show zb false = 0 from rfl]
      by_cases hc : (((r.2 0 6) >>> ((r.1 : Int32) &&& 31)) &&& 1) = 0
      · rw [if_pos hc, if_pos hc]
      · rw [if_neg hc, if_neg hc]
  have bo : ∀ (f : Nat) (u' : zM), DD f b u' → BO (stS (va_up S 1 T1) (Int32.ofNat f)) u' := by
    intro f u' hd
    refine ⟨f, b, hd, ?_, ?_⟩
    · unfold stS
      rw [va_up_eq, zu_j _ _ _ _ (by decide), zu_eq]
    · unfold stS
      rw [va_up_eq, zu_eq, s1]
      exact hK.2.2.1
  have fr : ∀ (f : Int32), FS S (stS (va_up S 1 T1) f) := by
    intro f j a c _
    unfold stS
    rw [va_up_neq _ _ c, va_up_neq _ _ a]
  have bad : ∀ (f : Nat) (u' : zM) (w : Nat), w < 6 → DD f b u' → Fk u u' → f_X5_takeNumber S 5 0 = some (false, stS (va_up S 1 T1) (Int32.ofNat f)) → (rlE u 5 = (R81 u' (Int32.ofNat w)).bind fun r8 => lineE r8) → LR t q S u 5 := by
    intro f u' w hw hd hf ht hr
    obtain ⟨u2, k1, k2, k3⟩ := bo81 (bo f u' hd) hw
    refine Or.inr ⟨_, u2, ?_, ?_, k2, fr _, hf.x.tr k3⟩
    · rw [e43, ht]
      rfl
    · rw [hr, k1]
      exact k2.line
  rcases num_chk (lo := 0) (hi := 5) (L := 5) (I := 0) (by decide) (by decide) f1 hB hK (by decide +kernel) (by decide +kernel) with ⟨v, -, g2, g3, g4, g5, g6, g7⟩ | ⟨f, u', g1, g2, g3, g4⟩
  · have g4 : f_X7_looked u 0 5 = some (Int32.ofNat v, u) := g4
    obtain ⟨k1, wm', k2, k3⟩ := wk_key wm w1 v (by omega)
    have wc : wcont (va_up S 1 T1) 5 0 = if ((((Int32.ofNat wm) >>> ((Int32.ofNat v : Int32) &&& 31)) &&& 1) = 1) then some (false, stS (va_up S 1 T1) 4) else some (true, va_up (va_up S 1 T1) 2 (zU (S 2) 1 0 (Int32.ofNat v))) := by
      unfold wcont
      rw [if_pos rfl, if_pos rfl, s1, g3, va_up_neq S T1 (show 2 ≠ 1 by decide), w2, stops_eq, if_pos (show z_in 0 3 = true by decide)]
      rfl
    by_cases hbit : (((Int32.ofNat wm) >>> ((Int32.ofNat v : Int32) &&& 31)) &&& 1) = 1
    · have hb0 := k1.mp hbit
      obtain ⟨u', n1, n2, n3, -⟩ := needs_bad (f := 4) g5 hK.2.2.2.1 (by decide) (by decide)
      refine bad 4 u' v (by omega) n2 n3 ?_ ?_
      · rw [g7, wc, if_pos hbit]
        rfl
      · rw [er, g4]
        simp only [Option.bind_some]
        rw [w3, if_neg hb0, show f_X7_needs u 0 4 = some u' from n1]
        rfl
    · have hb0 : (((Int32.ofNat wm) >>> ((Int32.ofNat v : Int32) &&& 31)) &&& 1) = 0 := Decidable.byContradiction (fun a => hbit (k1.mpr a))
      have hB2 : TB t T1 (zU u 0 6 (Int32.ofNat wm')) := ⟨hB.1, hB.2.1, (zu_j _ _ _ _ (by decide)).trans hB.2.2.1, fun i hi => by rw [zU_ne _ _ _ (by decide)]; exact hB.2.2.2 i hi⟩
      have hK2 : TK t b e T1 (zU u 0 6 (Int32.ofNat wm')) := by
        unfold TK at hK ⊢
        simp (disch := decide) only [zu_j]
        exact hK
      obtain ⟨u2, t1, t2, t3⟩ := pn_next hB2 hK2 ((zu_j _ _ _ _ (by decide)).trans g5) g6
      have hpn2 := t3 (va_up (va_up S 1 T1) 2 (zU (S 2) 1 0 (Int32.ofNat v))) q (by rw [va_up_neq _ _ (by decide), s1]) hq
      have hR : ∀ x : zM, R81 u (Int32.ofNat v) = (f_X7_readNumber u2 0 9).bind fun r14 => some (zU r14.2 4 (35 + v) r14.1) := by
        intro _
        unfold R81
        rw [w3, k3]
        simp only [zlet_eq]
        rw [t1]
        simp only [Option.bind_some]
        rw [show (35 : Int32) + Int32.ofNat v = Int32.ofNat (35 + v) from o_add 35 v, o_cl (by omega)]
        simp only [if_pos (z_inN (show 35 + v < 61 by omega) (show 61 < 2 ^ 31 by decide))]
      have er2 : rlE u 5 = (f_X7_readNumber u2 0 9).bind fun r14 => lineE (zU r14.2 4 (35 + v) r14.1) := by
        rw [er, g4]
        simp only [Option.bind_some]
        rw [w3, if_pos hb0, needs_ok (by decide)]
        simp only [Option.bind_some]
        rw [hR u]
        cases f_X7_readNumber u2 0 9 with
        | none => rfl
        | some r => rfl
      have e2 : f_X5_takeLine_43 FU S 5 0 = (f_X5_takeNumber (va_up (va_up S 1 T1) 2 (zU (S 2) 1 0 (Int32.ofNat v))) 5 1).bind fun r14 => if r14.1 = true then f_X5_takeLine_43 (m + 1 + 1) r14.2 5 (1 + 1) else some (false, r14.2) := by
        rw [e43, g7, wc, if_neg hbit]
        simp only [Option.bind_some, ↓reduceIte]
        exact tl_num (m + 1 + 1) _ hN (show ¬ (2 : Int32) ≤ 0 + 1 by decide)
      have fs1 : FS S (va_up (va_up S 1 T1) 2 (zU (S 2) 1 0 (Int32.ofNat v))) := fun j a c _ => by rw [va_up_neq _ _ c, va_up_neq _ _ a]
      have fx1 : Fx u u2 := (Fx.c u (by decide) _).tr t2.x
      have ns := num_step (lo := 0) (hi := 9) (i := 1) (L := 5) hpn2 (by decide) (by decide) (by decide) (by decide) (by decide +kernel) (by decide +kernel)
      rcases ns with ⟨x, S2, u3, x0, x9, r1, r2, r3, r4, r5, r6⟩ | ⟨S2, u3, r1, r2, r3, r4, r5⟩
      · have r1 : f_X5_takeNumber (va_up (va_up S 1 T1) 2 (zU (S 2) 1 0 (Int32.ofNat v))) 5 1 = some (true, S2) := r1
        have r2 : f_X7_readNumber u2 0 9 = some (Int32.ofNat x, u3) := r2
        rw [va_up_eq] at r4
        have S23 : S2 3 = S 3 := by rw [r5 3 (by decide) (by decide), va_up_neq _ _ (by decide), va_up_neq _ _ (by decide)]
        have hpn : PN t (q + 1 + 1) S2 (zU u3 4 (35 + v) (Int32.ofNat x)) := r3.keep rfl (fun k h1 h2 => by rw [zU_ne _ _ _ (by decide)]) (by rw [zU_ne _ _ _ (by decide)])
        have htake : ∀ T : zM, ∃ S13, f_X5_take (va_up S2 1 T) 5 = some S13 ∧ S13 1 = T ∧ S13 2 = zU (S2 2) 0 3 (Int32.ofNat wm') ∧ S13 3 = zU (S 3) 7 v (Int32.ofNat x) ∧ ∀ j, j ≠ 1 → j ≠ 2 → j ≠ 3 → S13 j = S2 j := by
          intro T
          have a0 : S2 2 1 0 = Int32.ofNat v := by rw [r4, zu_j _ _ _ _ (by decide), zu_eq]
          have a1 : S2 2 1 1 = Int32.ofNat x := by rw [r4, zu_eq]
          have a3 : S2 2 0 3 = Int32.ofNat wm := by rw [r4, zU_ne _ _ _ (by decide), zU_ne _ _ _ (by decide)]; exact w2
          unfold f_X5_take
          rw [if_neg (show ¬ (5 : Int32) = 4 by decide), if_pos rfl, if_pos (show z_in 0 3 = true by decide), if_pos (show z_in 1 3 = true by decide), show (0 : Int32).toNatClampNeg = 0 from rfl, show (1 : Int32).toNatClampNeg = 1 from rfl, va_up_neq S2 T (show 3 ≠ 1 by decide), va_up_neq S2 T (show 2 ≠ 1 by decide), S23, a0, a1, if_pos (z_inN (show v < 6 by omega) (by decide)), o_cl (show v < 2 ^ 31 by omega)]
          simp only [zlet_eq]
          rw [if_pos (show z_in 0 3 = true by decide), va_up_neq _ _ (show 2 ≠ 3 by decide), va_up_neq S2 T (show 2 ≠ 1 by decide), a0, a3, k3]
          refine ⟨_, rfl, ?_, va_up_eq _ _ _, ?_, fun j a b c => ?_⟩
          · rw [va_up_neq _ _ (by decide), va_up_neq _ _ (by decide), va_up_eq]
          · rw [va_up_neq _ _ (by decide), va_up_eq]
          · rw [va_up_neq _ _ b, va_up_neq _ _ c, va_up_neq _ _ a]
        have fx : Fx u (zU u3 4 (35 + v) (Int32.ofNat x)) := fx1.tr (r6.x.tr (Fx.d u3 _ _))
        rcases ln_end (m + 1) hpn hN (show (2 : Int32) ≤ 1 + 1 by decide) htake with ⟨S', u', y1, y2, y3, y4, y5, y6, y7⟩ | ⟨S', u', y1, y2, y3, y4, y5⟩
        · refine Or.inl ⟨P, n, S', u', ?_, ?_, y3.le (by omega), ?_, (fs1.tr (FS.of2 r5)).tr y6, fx.tr y7.x, ?_, ?_⟩
          · rw [e2, r1]
            exact y1
          · rw [er2, r2]
            exact y2
          · have c4 : u' 4 = upd (u 4) (35 + v) (Int32.ofNat x) := by
              rw [y7.1 4 (by decide), zU_row, r6.1 4 (by decide), t2.1 4 (by decide), zU_ne _ _ _ (by decide)]
            have c2 : S' 2 0 3 = Int32.ofNat wm' := by rw [y4, zu_eq]
            have c5 : u' 0 5 = u 0 5 := by rw [y7.2 5 (by decide), zU_ne _ _ _ (by decide), r6.2 5 (by decide), t2.2 5 (by decide), zu_j _ _ _ _ (by decide)]
            have c6 : u' 0 6 = Int32.ofNat wm' := by rw [y7.2 6 (by decide), zU_ne _ _ _ (by decide), r6.2 6 (by decide), t2.2 6 (by decide), zu_eq]
            have c7 : u' 0 7 = u 0 7 := by rw [y7.2 7 (by decide), zU_ne _ _ _ (by decide), r6.2 7 (by decide), t2.2 7 (by decide), zu_j _ _ _ _ (by decide)]
            unfold DR
            rw [y5, c4, c2, c5, c6, c7]
            refine ⟨d1, d2, ?_, d4, ?_, ?_, ?_, ?_, ⟨wm', k2, rfl, rfl⟩, ?_, ?_, ?_, ?_, ?_⟩
            · rw [zU_ne _ _ _ (by decide)]; exact d3
            · rw [zU_ne _ _ _ (by decide)]; exact d5
            · rw [up_ne _ _ _ (by omega)]; exact d6
            · rw [zU_ne _ _ _ (by decide)]; exact d7
            · rw [up_ne _ _ _ (by omega)]; exact d8
            · intro p hp
              rw [zU_ne _ _ _ (by decide), up_ne _ _ _ (by omega)]
              exact d10 p hp
            · intro b' hb'
              simp (disch := omega) only [zU_ne, up_ne]
              exact d11 b' hb'
            · intro k hk
              by_cases hkv : k = v
              · subst hkv
                rw [zu_eq, up_eq]
                exact ⟨x, by omega, rfl, rfl⟩
              · rw [zu_j _ _ _ _ hkv, up_ne _ _ _ (by omega)]
                exact d12 k hk
            · rw [up_ne _ _ _ (by omega)]; exact d13
            · rcases d14 with d | ⟨hh, h1, h2, h3, b', h4, h5⟩
              · exact Or.inl d
              · refine Or.inr ⟨hh, h1, h2, fun b'' hb => ?_, b', h4, ?_⟩
                · rw [up_ne _ _ _ (by omega)]; exact h3 b'' hb
                · rw [up_ne _ _ _ (by omega)]; exact h5
          · rw [y4, zu_j _ _ _ _ (by decide), r4, zU_ne _ _ _ (by decide), zU_ne _ _ _ (by decide)]
          · rw [y4, zu_j _ _ _ _ (by decide), r4, zU_ne _ _ _ (by decide), zU_ne _ _ _ (by decide)]
        · refine Or.inr ⟨S', u', ?_, ?_, y3, (fs1.tr (FS.of2 r5)).tr y4, fx.tr y5.x⟩
          · rw [e2, r1]
            exact y1
          · rw [er2, r2]
            exact y2
      · have r1 : f_X5_takeNumber (va_up (va_up S 1 T1) 2 (zU (S 2) 1 0 (Int32.ofNat v))) 5 1 = some (false, S2) := r1
        have r2 : f_X7_readNumber u2 0 9 = some (0, u3) := r2
        have bo2 : BO S2 (zU u3 4 (35 + v) 0) := r3.keep (by rw [zU_ne _ _ _ (by decide)]) (by rw [zU_ne _ _ _ (by decide)])
        refine Or.inr ⟨S2, _, ?_, ?_, bo2, fs1.tr (FS.of2 r4), fx1.tr (r5.x.tr (Fx.d u3 _ _))⟩
        · rw [e2, r1]
          rfl
        · rw [er2, r2]
          exact bo2.line
  · have g1 : f_X7_looked u 0 5 = some (0, u') := g1
    refine bad f u' 0 (by decide) g2 g3 g4 ?_
    rw [er, g1]
    simp only [Option.bind_some]
    rw [dd_needs g2, dd_needs g2]
    by_cases hc : (((u' 0 6) >>> ((0 : Int32) &&& 31)) &&& 1) = 0
    · rw [if_pos hc]
      rfl
    · rw [if_neg hc]
      rfl
