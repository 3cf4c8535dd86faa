theorem p_has0 {CC : Nat → mCall} (G : mGood CC) {d k i : Nat} {day : Int} {st : mS} {post : mO → mS → Prop} (hk : k = 1) (h : post (.inl (some (mi 7))) st) : CC (d + 1) 69 [mr k i, mi day] st post := by
  subst hk
  refine go_69 G (Nat.le_of_ble_eq_true rfl) (fun WW hW => hW _ _ _ _ _ ?_)
  dsimp only [mat, mfind, k_69, margs, Nat.beq, cond, mblk, mstep, mload, mget, isI, isRf, mun, mbin, mif, mcmp, mtgt, mGet, look3, P_RX1, mKd, mfv, mbinJ, mjmp, mproj]
  exact 5
