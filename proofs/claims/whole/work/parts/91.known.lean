theorem z_D {args : Array Value} {s : State} (htg : ∀ w ∈ zG, w.before args s = true) : ∃ D : va_G, ∀ (k : Nat) (q : vw_C), vwCl[k]? = some q → u_Kn s q.1 q.2.1 q.2.2 (D.1 k) (D.2 k) := by
  obtain ⟨c0, iS0, hK0⟩ := u_known (C := RX0) (T := TX0) (N := 1) (n := 1) htg zin_X0 (htg _ gw_1_202)
  obtain ⟨c1, iS1, hK1⟩ := u_known (C := RX1) (T := TX1) (N := 1) (n := 1) htg zin_X1 (htg _ gw_1_218)
  obtain ⟨c2, iS2, hK2⟩ := u_known (C := RX2) (T := TX2) (N := 1) (n := 1) htg zin_X2 (htg _ gw_1_180)
  obtain ⟨c3, iS3, hK3⟩ := u_known (C := RX3) (T := TX3) (N := 1) (n := 1) htg zin_X3 (htg _ gw_1_226)
  obtain ⟨c4, iS4, hK4⟩ := u_known (C := RX4) (T := TX4) (N := 1) (n := 1) htg zin_X4 (htg _ gw_1_210)
  obtain ⟨c5, iS5, hK5⟩ := u_known (C := RX5) (T := TX5) (N := 8) (n := 8) htg zin_X5 (htg _ gw_1_97)
  obtain ⟨c6, iS6, hK6⟩ := u_known (C := RX6) (T := TX6) (N := 3) (n := 3) htg zin_X6 (htg _ gw_1_135)
  obtain ⟨c7, iS7, hK7⟩ := u_known (C := RX7) (T := TX7) (N := 6) (n := 6) htg zin_X7 (htg _ gw_1_57)
  obtain ⟨c8, iS8, hK8⟩ := u_known (C := RX8) (T := TX8) (N := 5) (n := 5) htg zin_X8 (htg _ gw_1_155)
  obtain ⟨c9, iS9, hK9⟩ := u_known (C := RX9) (T := TX9) (N := 1) (n := 1) htg zin_X9 (htg _ gw_1_234)
  obtain ⟨c10, iS10, hK10⟩ := u_known (C := RX10) (T := TX10) (N := 7) (n := 7) htg zin_X10 (htg _ gw_1_27)
  obtain ⟨c11, iS11, hK11⟩ := u_known (C := RX11) (T := TX11) (N := 11) (n := 11) htg zin_X11 (htg _ gw_1_19)
  obtain ⟨c12, iS12, hK12⟩ := u_known (C := RX12) (T := TX12) (N := 27) (n := 27) htg zin_X12 (htg _ gw_3_190)
  refine ⟨(fun k => [c0, c1, c2, c3, c4, c5, c6, c7, c8, c9, c10, c11, c12].getD k c0, fun k => [iS0, iS1, iS2, iS3, iS4, iS5, iS6, iS7, iS8, iS9, iS10, iS11, iS12].getD k iS0), ?_⟩
  intro k q hq
  match k, hq with
  | 0, hq => cases hq; exact hK0
  | 1, hq => cases hq; exact hK1
  | 2, hq => cases hq; exact hK2
  | 3, hq => cases hq; exact hK3
  | 4, hq => cases hq; exact hK4
  | 5, hq => cases hq; exact hK5
  | 6, hq => cases hq; exact hK6
  | 7, hq => cases hq; exact hK7
  | 8, hq => cases hq; exact hK8
  | 9, hq => cases hq; exact hK9
  | 10, hq => cases hq; exact hK10
  | 11, hq => cases hq; exact hK11
  | 12, hq => cases hq; exact hK12
  | k + 13, hq => cases hq
theorem z_K {args : Array Value} {s : State} (b : Nat) (hts : ∀ w ∈ lw_tbl, w.before args s = true) : ∃ (D : va_G) (aC : Nat → ClassId), va_K (zE0 D aC b).1 vwCl (zt (zE0 D aC b)) s := by
  have htg : ∀ w ∈ zG, w.before args s = true := fun w hw => hts w (zG_in hw)
  obtain ⟨D, hKc⟩ := z_D htg
  obtain ⟨a0, kA0, cm0, f0, g0, j0⟩ := Cond.arrayClass_spec (htg _ gw_1_55)
  obtain ⟨a1, kA1, cm1, f1, g1, j1⟩ := Cond.arrayClass_spec (htg _ gw_1_200)
  obtain ⟨a2, kA2, cm2, f2, g2, j2⟩ := Cond.arrayClass_spec (htg _ gw_1_177)
  have hN : zN s := zN.of hts
  obtain ⟨cm3, a3, kA3, h3a, -, g3, j3, f3⟩ := Cond.arrayOver_spec hN.2.2.2.1
  obtain ⟨cm4, a4, kA4, h4a, -, g4, j4, f4⟩ := Cond.arrayOver_spec hN.2.2.2.2
  refine ⟨D, fun k => if k = 0 then a0 else if k = 1 then a1 else if k = 2 then a2 else if k = 3 then a3 else a4, hKc, fun k q hq => ?_⟩
  match k, hq with
  | 0, hq => cases hq; exact ⟨fun n z => ⟨fun k h => (by cases h), kA0, g0, cm0, j0⟩, f0⟩
  | 1, hq => cases hq; exact ⟨fun n z => ⟨fun k h => (by cases h), kA1, g1, cm1, j1⟩, f1⟩
  | 2, hq => cases hq; exact ⟨fun n z => ⟨fun k h => (by cases h), kA2, g2, cm2, j2⟩, f2⟩
  | 3, hq => cases hq; exact ⟨fun n z => ⟨fun k h => (by cases h), kA3, g3, cm3, j3⟩, kA3, cm3, g3, j3, h3a, f3⟩
  | 4, hq => cases hq; exact ⟨fun n z => ⟨fun k h => (by cases h), kA4, g4, cm4, j4⟩, kA4, cm4, g4, j4, h4a, f4⟩
  | k + 5, hq => cases hq
