/-! the class's moments: what its loops answer -/
def aWho (wh : Nat → Int32) (w : Int32) (G : Nat) : Int32 := zfo (fun j a => if wh j = w then a ||| zbit j else a) G 0
theorem c_whoIs {M : zM} {c G : Nat} (hG : M.1 c 2 = nI G) (h9 : G ≤ 9) (w : Int32) : f_X5_whoIs M c w = some (aWho (M.1 (c + 3)) w G, M) := by
  refine zloop0 (fun n a i => f_X5_whoIs_4 c w n M a i) (fun j a => if M.1 (c + 3) j = w then a ||| zbit j else a) (fun a => some (a, M)) G (fun n j a hj => ?_) (fun n a => ?_) (zFU_gt (by omega))
  · show f_X5_whoIs_4 c w (n + 1) M a (nI j) = f_X5_whoIs_4 c w n M _ (nI (j + 1))
    rw [f_X5_whoIs_4, hG, if_neg (nI_ge hj (by omega)), zg_in (by omega) (by decide), nI_clamp (by omega), nI_1]
    by_cases h : M.1 (c + 3) j = w
    · simp only [if_pos h]; rfl
    · simp only [if_neg h]
  · show f_X5_whoIs_4 c w (n + 1) M a (nI G) = _
    rw [f_X5_whoIs_4, hG, if_pos (Int32.le_refl _)]
