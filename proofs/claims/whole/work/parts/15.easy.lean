/-! THE CASES, the easy ones -/
theorem RR_congr {r z : Nat} {h g : Hp} (hr : ∀ p, (p = r + 2 ∨ p = r + 3 ∨ p = r + 4 ∨ p = r + 6 ∨ p = r + 9 ∨ p = r + 10 ∨ p = r + 11 ∨ p = r + 12 ∨ p = r + 14 ∨ p = r + 15) → g p = h p) (h5 : g (r + 5) 2 = h (r + 5) 2) (h8 : g (r + 8) 4 = h (r + 8) 4) (h13 : g (r + 13) 2 = h (r + 13) 2) (hz : g z = h z) (H : RR r z h) : RR r z g := by
  have e2 := hr (r + 2) (by omega)
  have e3 := hr (r + 3) (by omega)
  have e4 := hr (r + 4) (by omega)
  have e6 := hr (r + 6) (by omega)
  have e9 := hr (r + 9) (by omega)
  have e10 := hr (r + 10) (by omega)
  have e11 := hr (r + 11) (by omega)
  have e12 := hr (r + 12) (by omega)
  have e14 := hr (r + 14) (by omega)
  have e15 := hr (r + 15) (by omega)
  unfold RR RS RN RP RG RH RW at H ⊢
  rw [e2, e3, e4, e6, e9, e10, e11, e12, e14, e15, h5, h8, h13, hz]
  exact H
theorem Zz_congr {z : Nat} {h g : Hp} (hz : g z = h z) (H : Zz z h) : Zz z g := by
  unfold Zz ZS ZN ZP ZG ZH ZW at H ⊢
  rw [hz]
  exact H
theorem Dr_congr {c : Nat} {h g : Hp} (h2 : g c 2 = h c 2) (h3 : g c 3 = h c 3) (h4 : g (c + 1) = h (c + 1)) (h5 : g (c + 2) = h (c + 2)) (H : Dr c h) : Dr c g := by
  unfold Dr at H ⊢
  rw [h2, h3, h4, h5]
  exact H
theorem Fd_congr {h g : Hp} (hr : ∀ p, ((2 ≤ p ∧ p ≤ 10) ∨ p = 13 ∨ p = 14 ∨ p = 15 ∨ p = 16 ∨ p = 17 ∨ p = 19 ∨ p = 20 ∨ p = 21 ∨ p = 22 ∨ p = 23) → g p = h p) (hq : g 1 13 = h 1 13) (H : Fdy h) : Fdy g := by
  obtain ⟨a, b, h1, h2, h3, h4⟩ := H
  exact ⟨a, b, fun p hp => by rw [h1 p hp, hr p (Or.inr hp)], h2, fun p h5 h6 => by rw [hr p (Or.inl ⟨h5, h6⟩), h3 p h5 h6], by rw [hq, h4]⟩
theorem Tp_congr {h g : Hp} (h1 : g 70 1 = h 70 1) (h2 : g 80 2 = h 80 2) (h3 : g 71 = h 71) (h4 : g 82 = h 82) (H : Tp h) : Tp g := by
  unfold Tp at H ⊢
  rw [h1, h2, h3, h4]
  exact H
theorem Sh_congr {h g : Hp} (hr : ∀ p, (p = 73 ∨ p = 74 ∨ p = 75 ∨ p = 95 ∨ p = 96 ∨ p = 97) → g p = h p) (H : Sh h) : Sh g := by
  unfold Sh at H ⊢
  rw [hr 73 (by omega), hr 74 (by omega), hr 75 (by omega), hr 95 (by omega), hr 96 (by omega), hr 97 (by omega)]
  exact H
theorem Kp_congr {h g : Hp} (h0 : g 0 5 = h 0 5) (h1 : g 80 22 = h 80 22) (hr : ∀ p, 53 ≤ p → p ≤ 68 → g p = h p) (hz : g 94 = h 94) (H : h 0 5 = h 80 22 ∧ (h 80 22 = 0 ∨ (h 80 22 = 1 ∧ RR 53 94 h ∧ Zz 94 h ∧ Dr 66 h))) : g 0 5 = g 80 22 ∧ (g 80 22 = 0 ∨ (g 80 22 = 1 ∧ RR 53 94 g ∧ Zz 94 g ∧ Dr 66 g)) := by
  rw [h0, h1]
  refine ⟨H.1, H.2.imp id fun ⟨q1, q2, q3, q4⟩ => ⟨q1, RR_congr (fun p hp => hr p (by omega) (by omega)) (by rw [hr _ (by omega) (by omega)]) (by rw [hr _ (by omega) (by omega)]) (by rw [hr _ (by omega) (by omega)]) hz q2, Zz_congr hz q3, Dr_congr (by rw [hr _ (by omega) (by omega)]) (by rw [hr _ (by omega) (by omega)]) (by rw [hr _ (by omega) (by omega)]) (by rw [hr _ (by omega) (by omega)]) q4⟩⟩
/-- a change of the shop alone, day stale: what is left to show is the room and the row -/
theorem inv_room {L : Nat} {xs : Nat → Int32} {h g : Hp} (hI : Inv L xs h) (hg : ∀ p, ¬ (p = 1 ∨ (11 ≤ p ∧ p ≤ 26) ∨ (27 ≤ p ∧ p ≤ 52) ∨ p = 80 ∨ p = 81) → g p = h p) (h80 : g 80 2 = h 80 2 ∧ g 80 22 = h 80 22) (hst : g 1 15 = 1) (hR : RR 11 81 g) (hZ : Zz 81 g) (hD : Dr 24 g) : Inv L xs g := by
  obtain ⟨q1, q2, q3, q4, q5, q6, q7, q8⟩ := hI
  refine ⟨fun p hp => by rw [hg p (by omega)]; exact q1 p hp, hR, hZ, Kp_congr (by rw [hg 0 (by omega)]) h80.2 (fun p h1 h2 => hg p (by omega)) (hg 94 (by omega)) q4, Tp_congr (by rw [hg 70 (by omega)]) h80.1 (hg 71 (by omega)) (hg 82 (by omega)) q5, Sh_congr (fun p hp => hg p (by omega)) q6, Or.inr hst, hD⟩
theorem s_set {L : Nat} {xs : Nat → Int32} {h : Hp} (hS : Sm L xs h) {a1 a2 : Int} (r1 : Rg a1) (r2 : Rg a2) : X (0, 0, [aR 0, aI a1, aI a2, aN], [], h) = if (0 ≤ a1 ∧ a1 < 8) ∧ lo8 a1 ≤ a2 ∧ a2 ≤ hi8 a1 then some (some (h 13 a1), up (up h 13 a1 a2) 1 15 1) else some (some (-1), h) := by
  have e1 : wr a1 = a1 := wr_id r1.1 r1.2
  have e2 : wr a2 = a2 := wr_id r2.1 r2.2
  rw [e0_0, s_isBelow, bI_some, d_bi0]
  unfold ib
  rw [show wr 8 = 8 by decide, e1, e2]
  by_cases h1 : 0 ≤ a1 ∧ a1 < 8
  · obtain ⟨q1, q2⟩ := st_98 hS h1.1 h1.2
    have i1 : inb 8 a1 = true := inb_t h1.1 h1.2 (by omega)
    have lo : lo8 a1 = 0 ∨ lo8 a1 = 1 := by unfold lo8; split <;> omega
    have hi : 0 ≤ hi8 a1 ∧ hi8 a1 ≤ 239 := by unfold hi8; split <;> (try split) <;> (try split) <;> (try split) <;> (try split) <;> (try split) <;> (try split) <;> omega
    rw [decide_eq_true h1, Bool.not_true, cond_f, i1, cond_t, cond_t, cond_t, cond_t, q1, q2, wr_id (x := lo8 a1) (by omega) (by omega), wr_id (x := hi8 a1) (by omega) (by omega)]
    by_cases h2 : a2 < lo8 a1
    · rw [cd_t h2, if_neg (by omega)]
    · rw [cd_f h2]
      by_cases h3 : a2 ≤ hi8 a1
      · rw [cd_t h3, if_pos ⟨h1, by omega, h3⟩]
      · rw [cd_f h3, if_neg (by omega)]
  · rw [decide_eq_false h1, Bool.not_false, cond_t, if_neg (by omega)]
theorem m_set {h : Hp} {a1 a2 : Int} (r1 : Rg a1) (r2 : Rg a2) : X (43, 0, [aR 80, aI a1, aI a2, aN, aN], [], h) = if (0 ≤ a1 ∧ a1 < 8) ∧ lo8 a1 ≤ a2 ∧ a2 ≤ hi8 a1 then some (some (h 81 a1), up h 81 a1 a2) else some (some (-1), h) := by
  have e1 : wr a1 = a1 := wr_id r1.1 r1.2
  have e2 : wr a2 = a2 := wr_id r2.1 r2.2
  have key : X (43, 0, [aR 80, aI a1, aI a2, aN, aN], [], h) = X (43, 71, [aR 80, aI a1, aI a2, aN, aN], [aI (hi8 a1)], h) := by
    rw [e43_0, e1]
    unfold hi8
    by_cases g0 : a1 = 0
    · rw [cd_f (by omega), if_pos g0]
    rw [cd_t g0, if_neg g0]
    by_cases g1 : a1 = 1
    · rw [cd_f (by omega), if_pos g1]
    rw [cd_t g1, if_neg g1]
    by_cases g2 : a1 = 2
    · rw [cd_f (by omega), if_pos g2]
    rw [cd_t g2, if_neg g2]
    by_cases g3 : a1 = 3
    · rw [cd_f (by omega), if_pos g3]
    rw [cd_t g3, if_neg g3]
    by_cases g4 : a1 = 4
    · rw [cd_f (by omega), if_pos g4]
    rw [cd_t g4, if_neg g4]
    by_cases g5 : a1 = 5
    · rw [cd_f (by omega), if_pos g5]
    rw [cd_t g5, if_neg g5]
    by_cases g6 : a1 = 6
    · rw [cd_f (by omega), if_pos g6]
    rw [cd_t g6, if_neg g6]
  have hi : 0 ≤ hi8 a1 ∧ hi8 a1 ≤ 239 := by unfold hi8; split <;> (try split) <;> (try split) <;> (try split) <;> (try split) <;> (try split) <;> (try split) <;> omega
  rw [key, e43_71, s_inw h (by omega) (by omega), bI_some, d_bi0, e1, e2, wr_id (x := hi8 a1) (by omega) (by omega)]
  unfold iin
  by_cases h1 : 0 ≤ a1 ∧ a1 ≤ 7
  · have i1 : inb 115 a1 = true := inb_t h1.1 (by omega) (by omega)
    rw [decide_eq_true h1, Bool.not_true, cond_f]
    have s2 : ∀ lo : Int, 0 ≤ lo ∧ lo ≤ 1 → X (41, 0, [aL a2, aN, aL lo, aN, aL (hi8 a1), aN], [], h) = some (some (bi (iin a2 lo (hi8 a1))), h) := fun lo hl => s_in h r2 (by omega) (by omega)
    by_cases g0 : a1 = 0
    · rw [cd_f (by omega), s2 1 (by omega), bI_some, d_bi1]
      unfold iin
      have hl : lo8 a1 = 1 := by unfold lo8; rw [if_pos g0]
      by_cases h2 : 1 ≤ a2 ∧ a2 ≤ hi8 a1
      · rw [decide_eq_true h2, cond_t, i1, cond_t, cond_t, if_pos ⟨⟨by omega, by omega⟩, by omega, by omega⟩]
      · rw [decide_eq_false h2, cond_f, if_neg (by omega)]
    · rw [cd_t g0, s2 0 (by omega), bI_some, d_bi1]
      unfold iin
      have hl : lo8 a1 = 0 := by unfold lo8; rw [if_neg g0]
      by_cases h2 : 0 ≤ a2 ∧ a2 ≤ hi8 a1
      · rw [decide_eq_true h2, cond_t, i1, cond_t, cond_t, if_pos ⟨⟨by omega, by omega⟩, by omega, by omega⟩]
      · rw [decide_eq_false h2, cond_f, if_neg (by omega)]
  · rw [decide_eq_false h1, Bool.not_false, cond_t, if_neg (by omega)]
theorem case_0 (L : Nat) (xs : Nat → Int32) : Cs_0 L xs := by
  intro h hI a1 a2 r1 r2
  have hS := hI.1
  by_cases ok : (0 ≤ a1 ∧ a1 < 8) ∧ lo8 a1 ≤ a2 ∧ a2 ≤ hi8 a1
  · refine ⟨h 13 a1, up (up h 13 a1 a2) 1 15 1, up (up (up h 13 a1 a2) 1 15 1) 81 a1 a2, ?_, ?_, ?_, ?_⟩
    · show X (0, 0, [aR 0, aI a1, aI a2, aN], [], h) = _
      rw [s_set hS r1 r2, if_pos ok]
    · intro p hp
      rw [up_n _ _ _ (by omega), up_n _ _ _ (by omega)]; exact hS p hp
    · show X (43, 0, [aR 80, aI a1, aI a2, aN, aN], [], _) = _
      rw [m_set r1 r2, if_pos ok, up_n _ _ _ (by decide), up_n _ _ _ (by decide)]
      rw [show h 81 a1 = h 13 a1 from (hI.2.1.1 a1 ok.1.1 ok.1.2).symm]
    · have hR := hI.2.1
      have hZ := hI.2.2.1
      have f : ∀ p, p ≠ 13 → p ≠ 1 → p ≠ 81 → up (up (up h 13 a1 a2) 1 15 1) 81 a1 a2 p = h p := fun p n1 n2 n3 => by
        rw [up_n _ _ _ n3, up_n _ _ _ n2, up_n _ _ _ n1]
      have f81 : ∀ j, j ≠ a1 → up (up (up h 13 a1 a2) 1 15 1) 81 a1 a2 81 j = h 81 j := fun j hj => by
        rw [up_o _ _ _ hj, up_n _ _ _ (by decide), up_n _ _ _ (by decide)]
      have f13 : ∀ j, j ≠ a1 → up (up (up h 13 a1 a2) 1 15 1) 81 a1 a2 13 j = h 13 j := fun j hj => by
        rw [up_n _ _ _ (by decide), up_n _ _ _ (by decide), up_o _ _ _ hj]
      have g81 : up (up (up h 13 a1 a2) 1 15 1) 81 a1 a2 81 a1 = a2 := up_s _ _ _ _
      have g13 : up (up (up h 13 a1 a2) 1 15 1) 81 a1 a2 13 a1 = a2 := by
        rw [up_n _ _ _ (by decide), up_n _ _ _ (by decide), up_s]
      refine inv_room hI (fun p hp => f p (by omega) (by omega) (by omega)) ⟨by rw [f 80 (by decide) (by decide) (by decide)], by rw [f 80 (by decide) (by decide) (by decide)]⟩ (by rw [up_n _ _ _ (by decide), up_s]) ?_ ?_ ?_
      · obtain ⟨c1, c2, c3, c4, c5, c6⟩ := hR
        exact ⟨fun k k1 k2 => by
          by_cases hk : k = a1
          · subst hk; rw [g81, show 11 + 2 = 13 from rfl, g13]
          · rw [f81 k hk, show 11 + 2 = 13 from rfl, f13 k hk]; exact c1 k k1 k2, RN_c (f _ (by decide) (by decide) (by decide)) (fun j j1 j2 => f81 j (by omega)) c2, RP_c (f _ (by decide) (by decide) (by decide)) (fun j j1 j2 => f81 j (by omega)) c3, RG_c hZ.2.2.2.1.1.2 (by rw [f _ (by decide) (by decide) (by decide)]) (f _ (by decide) (by decide) (by decide)) (f _ (by decide) (by decide) (by decide)) (f _ (by decide) (by decide) (by decide)) (f _ (by decide) (by decide) (by decide)) (fun j hj => f81 j (by omega)) c4, RH_c hZ.2.2.2.2.1.1.2 (by rw [f _ (by decide) (by decide) (by decide)]) (f _ (by decide) (by decide) (by decide)) (fun j j1 j2 => f81 j (by omega)) c5, RW_c hZ.2.2.2.2.2.1.2 (by rw [f _ (by decide) (by decide) (by decide)]) (f _ (by decide) (by decide) (by decide)) (f _ (by decide) (by decide) (by decide)) (fun j j1 j2 => f81 j (by omega)) c6⟩
      · obtain ⟨c1, c2, c3, c4, c5, c6⟩ := hZ
        exact ⟨fun k k1 k2 => by
          by_cases hk : k = a1
          · subst hk; rw [g81]; exact ok.2
          · rw [f81 k hk]; exact c1 k k1 k2, ZN_c (fun j j1 j2 => f81 j (by omega)) c2, ZP_c (fun j j1 j2 => f81 j (by omega)) c3, ZG_c (fun j hj => f81 j (by omega)) c4, ZH_c (fun j j1 j2 => f81 j (by omega)) c5, ZW_c (fun j hj => f81 j (by omega)) c6⟩
      · exact Dr_congr (by rw [f 24 (by decide) (by decide) (by decide)]) (by rw [f 24 (by decide) (by decide) (by decide)]) (f _ (by decide) (by decide) (by decide)) (f _ (by decide) (by decide) (by decide)) hI.2.2.2.2.2.2.2
  · refine ⟨-1, h, h, ?_, hS, ?_, hI⟩
    · show X (0, 0, [aR 0, aI a1, aI a2, aN], [], h) = _
      rw [s_set hS r1 r2, if_neg ok]
    · show X (43, 0, [aR 80, aI a1, aI a2, aN, aN], [], _) = _
      rw [m_set r1 r2, if_neg ok]
