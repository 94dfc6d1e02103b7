/-! each kind of act: its look, its deed -/
theorem al_0 {T : xT} {S : xS} {w n : Int32} (tp : xTp T S.2.2) : f_X9_isAllowed T S 0 (0 : Int32) w n = if (S.1 31 0) = (0 : Int32) then some ((0 : Int32), S) else some ((1 : Int32), S) := by
  unfold f_X9_isAllowed
  rw [rr_0_4 tp, rr_17_0 tp, if_pos (by decide)]
theorem al_1 {T : xT} {S : xS} {w n : Int32} (tp : xTp T S.2.2) : f_X9_isAllowed T S 0 (1 : Int32) w n = if n < (-1000000 : Int32) then some ((0 : Int32), S) else if (1000000 : Int32) < n then some ((0 : Int32), S) else some ((1 : Int32), S) := by
  unfold f_X9_isAllowed
  rw [rr_0_4 tp, rr_17_0 tp, if_neg (by decide), if_pos (by decide)]
theorem al_2 {T : xT} {S : xS} {w n : Int32} (tp : xTp T S.2.2) : f_X9_isAllowed T S 0 (2 : Int32) w n = xc (f_X1_hasAsset T S 31 w) (fun r7 S6 => if r7 = (0 : Int32) then some ((0 : Int32), S6) else if n < (1 : Int32) then some ((0 : Int32), S6) else xgr T S6 31 11 20 (fun a8 => xai T S6 a8 w (fun v9 => if v9 < n then some ((0 : Int32), S6) else some ((1 : Int32), S6)))) := by
  unfold f_X9_isAllowed
  rw [rr_0_4 tp, rr_17_0 tp, if_neg (by decide), if_neg (by decide), if_pos (by decide)]
theorem al_3 {T : xT} {S : xS} {w n : Int32} (tp : xTp T S.2.2) : f_X9_isAllowed T S 0 (3 : Int32) w n = xc (f_X1_hasAsset T S 31 w) (fun r12 S11 => if r12 = (0 : Int32) then some ((0 : Int32), S11) else if n < (1 : Int32) then some ((0 : Int32), S11) else xgr T S11 31 13 20 (fun a13 => xai T S11 a13 w (fun v14 => if ((1000000 : Int32) - v14) < n then some ((0 : Int32), S11) else some ((1 : Int32), S11)))) := by
  unfold f_X9_isAllowed
  rw [rr_0_4 tp, rr_17_0 tp, if_neg (by decide), if_neg (by decide), if_neg (by decide), if_pos (by decide)]
theorem al_4 {T : xT} {S : xS} {w n : Int32} (tp : xTp T S.2.2) : f_X9_isAllowed T S 0 (4 : Int32) w n = xc (f_X1_hasAsset T S 31 w) (fun r17 S16 => if r17 = (0 : Int32) then some ((0 : Int32), S16) else if n < (1 : Int32) then some ((0 : Int32), S16) else xgr T S16 31 13 20 (fun a18 => xai T S16 a18 w (fun v19 => if v19 < n then some ((0 : Int32), S16) else some ((1 : Int32), S16)))) := by
  unfold f_X9_isAllowed
  rw [rr_0_4 tp, rr_17_0 tp, if_neg (by decide), if_neg (by decide), if_neg (by decide), if_neg (by decide), if_pos (by decide)]
theorem al_5 {T : xT} {S : xS} {w n : Int32} (tp : xTp T S.2.2) : f_X9_isAllowed T S 0 (5 : Int32) w n = xc (f_X1_hasAsset T S 31 w) (fun r22 S21 => if r22 = (0 : Int32) then some ((0 : Int32), S21) else xc (f_X9_isSum T S21 n) (fun r24 S23 => if r24 = (0 : Int32) then some ((0 : Int32), S23) else some ((1 : Int32), S23))) := by
  unfold f_X9_isAllowed
  rw [rr_0_4 tp, rr_17_0 tp, if_neg (by decide), if_neg (by decide), if_neg (by decide), if_neg (by decide), if_neg (by decide), if_pos (by decide)]
theorem al_6 {T : xT} {S : xS} {w n : Int32} (tp : xTp T S.2.2) : f_X9_isAllowed T S 0 (6 : Int32) w n = xc (f_X1_hasPartner T S 31 w) (fun r27 S26 => if r27 = (0 : Int32) then some ((0 : Int32), S26) else if n = (0 : Int32) then some ((0 : Int32), S26) else xc (f_X9_isSum T S26 n) (fun r29 S28 => if r29 = (0 : Int32) then some ((0 : Int32), S28) else some ((1 : Int32), S28))) := by
  unfold f_X9_isAllowed
  rw [rr_0_4 tp, rr_17_0 tp, if_neg (by decide), if_neg (by decide), if_neg (by decide), if_neg (by decide), if_neg (by decide), if_neg (by decide), if_pos (by decide)]
theorem al_7 {T : xT} {S : xS} {w n : Int32} (tp : xTp T S.2.2) : f_X9_isAllowed T S 0 (7 : Int32) w n = xc (f_X1_hasPartner T S 31 w) (fun r32 S31 => if r32 = (0 : Int32) then some ((0 : Int32), S31) else if n = (0 : Int32) then some ((0 : Int32), S31) else xc (f_X9_isSum T S31 n) (fun r34 S33 => if r34 = (0 : Int32) then some ((0 : Int32), S33) else some ((1 : Int32), S33))) := by
  unfold f_X9_isAllowed
  rw [rr_0_4 tp, rr_17_0 tp, if_neg (by decide), if_neg (by decide), if_neg (by decide), if_neg (by decide), if_neg (by decide), if_neg (by decide), if_neg (by decide), if_pos (by decide)]
theorem al_8 {T : xT} {S : xS} {w n : Int32} (tp : xTp T S.2.2) : f_X9_isAllowed T S 0 (8 : Int32) w n = if w < (0 : Int32) then some ((0 : Int32), S) else if (8 : Int32) ≤ w then some ((0 : Int32), S) else xc (f_X1_hasPartner T S 31 w) (fun r37 S36 => if r37 = (0 : Int32) then xc (f_X9_isSum T S36 n) (fun r39 S38 => if r39 = (0 : Int32) then some ((0 : Int32), S38) else if (S38.1 31 3) = (0 : Int32) then some ((1 : Int32), S38) else some ((0 : Int32), S38)) else some ((0 : Int32), S36)) := by
  unfold f_X9_isAllowed
  rw [rr_0_4 tp, rr_17_0 tp, if_neg (by decide), if_neg (by decide), if_neg (by decide), if_neg (by decide), if_neg (by decide), if_neg (by decide), if_neg (by decide), if_neg (by decide), if_pos (by decide)]
theorem al_9 {T : xT} {S : xS} {w n : Int32} (tp : xTp T S.2.2) : f_X9_isAllowed T S 0 (9 : Int32) w n = xc (f_X1_hasPartner T S 31 w) (fun r42 S41 => if r42 = (0 : Int32) then some ((0 : Int32), S41) else if (S41.1 31 0) = ((1 : Int32) <<< (w &&& 31)) then some ((0 : Int32), S41) else if (S41.1 31 3) = (0 : Int32) then some ((1 : Int32), S41) else some ((0 : Int32), S41)) := by
  unfold f_X9_isAllowed
  rw [rr_0_4 tp, rr_17_0 tp, if_neg (by decide), if_neg (by decide), if_neg (by decide), if_neg (by decide), if_neg (by decide), if_neg (by decide), if_neg (by decide), if_neg (by decide), if_neg (by decide), if_pos (by decide)]
theorem al_10 {T : xT} {S : xS} {w n : Int32} (tp : xTp T S.2.2) : f_X9_isAllowed T S 0 (10 : Int32) w n = xc (f_X1_hasPartner T S 31 w) (fun r45 S44 => if r45 = (0 : Int32) then some ((0 : Int32), S44) else if n < (0 : Int32) then some ((0 : Int32), S44) else if (100000 : Int32) < n then some ((0 : Int32), S44) else some ((1 : Int32), S44)) := by
  unfold f_X9_isAllowed
  rw [rr_0_4 tp, rr_17_0 tp, if_neg (by decide), if_neg (by decide), if_neg (by decide), if_neg (by decide), if_neg (by decide), if_neg (by decide), if_neg (by decide), if_neg (by decide), if_neg (by decide), if_neg (by decide), if_pos (by decide)]
theorem al_11 {T : xT} {S : xS} {w n : Int32} (tp : xTp T S.2.2) : f_X9_isAllowed T S 0 (11 : Int32) w n = xc (f_X1_hasPartner T S 31 w) (fun r48 S47 => if r48 = (0 : Int32) then some ((0 : Int32), S47) else if n < (0 : Int32) then some ((0 : Int32), S47) else if (99 : Int32) < n then some ((0 : Int32), S47) else some ((1 : Int32), S47)) := by
  unfold f_X9_isAllowed
  rw [rr_0_4 tp, rr_17_0 tp, if_neg (by decide), if_neg (by decide), if_neg (by decide), if_neg (by decide), if_neg (by decide), if_neg (by decide), if_neg (by decide), if_neg (by decide), if_neg (by decide), if_neg (by decide), if_neg (by decide), if_pos (by decide)]
theorem al_12 {T : xT} {S : xS} {w n : Int32} (tp : xTp T S.2.2) : f_X9_isAllowed T S 0 (12 : Int32) w n = xc (f_X1_hasAsset T S 31 w) (fun r51 S50 => xgd (xnz r51) (some (r51, S50))) := by
  unfold f_X9_isAllowed
  rw [rr_0_4 tp, rr_17_0 tp, if_neg (by decide), if_neg (by decide), if_neg (by decide), if_neg (by decide), if_neg (by decide), if_neg (by decide), if_neg (by decide), if_neg (by decide), if_neg (by decide), if_neg (by decide), if_neg (by decide), if_neg (by decide), if_pos (by decide)]
theorem pf_0 {T : xT} {S : xS} {w n : Int32} (tp : xTp T S.2.2) : f_X9_perform T S 0 (0 : Int32) w n = xgr T S 0 1 2 (fun a4 => xgr T S 0 4 5 (fun a5 => xgr T S a5 2 8 (fun a6 => xgr T S 0 4 5 (fun a7 => xgr T S a7 3 4 (fun a8 => xgr T S 0 4 5 (fun a9 => xgr T S a9 1 7 (fun a10 => xc (f_X2_closeYear T S a4 31 a6 a8 a10) (fun r12 S11 => some (r12, S11))))))))) := by
  unfold f_X9_perform
  rw [rr_0_4 tp, rr_17_0 tp, if_pos (by decide)]
theorem pf_1 {T : xT} {S : xS} {w n : Int32} (tp : xTp T S.2.2) : f_X9_perform T S 0 (1 : Int32) w n = xc (f_X1_earnMore T S 31 n) (fun r15 S14 => some (r15, S14)) := by
  unfold f_X9_perform
  rw [rr_0_4 tp, rr_17_0 tp, if_neg (by decide), if_pos (by decide)]
theorem pf_2 {T : xT} {S : xS} {w n : Int32} (tp : xTp T S.2.2) : f_X9_perform T S 0 (2 : Int32) w n = xc (f_X1_writeOff T S 31 w n) (fun r18 S17 => some (r18, S17)) := by
  unfold f_X9_perform
  rw [rr_0_4 tp, rr_17_0 tp, if_neg (by decide), if_neg (by decide), if_pos (by decide)]
theorem pf_3 {T : xT} {S : xS} {w n : Int32} (tp : xTp T S.2.2) : f_X9_perform T S 0 (3 : Int32) w n = xc (f_X1_changeDebt T S 31 w n) (fun r21 S20 => some (r21, S20)) := by
  unfold f_X9_perform
  rw [rr_0_4 tp, rr_17_0 tp, if_neg (by decide), if_neg (by decide), if_neg (by decide), if_pos (by decide)]
theorem pf_4 {T : xT} {S : xS} {w n : Int32} (tp : xTp T S.2.2) : f_X9_perform T S 0 (4 : Int32) w n = xc (f_X1_changeDebt T S 31 w ((-n))) (fun r24 S23 => some (r24, S23)) := by
  unfold f_X9_perform
  rw [rr_0_4 tp, rr_17_0 tp, if_neg (by decide), if_neg (by decide), if_neg (by decide), if_neg (by decide), if_pos (by decide)]
theorem pf_5 {T : xT} {S : xS} {w n : Int32} (tp : xTp T S.2.2) : f_X9_perform T S 0 (5 : Int32) w n = xgr T S 31 12 20 (fun a26 => xc (f_X9_replace T S a26 w n) (fun r28 S27 => some (r28, S27))) := by
  unfold f_X9_perform
  rw [rr_0_4 tp, rr_17_0 tp, if_neg (by decide), if_neg (by decide), if_neg (by decide), if_neg (by decide), if_neg (by decide), if_pos (by decide)]
theorem pf_6 {T : xT} {S : xS} {w n : Int32} (tp : xTp T S.2.2) : f_X9_perform T S 0 (6 : Int32) w n = xc (f_X1_payIn T S 31 w n) (fun r31 S30 => some (r31, S30)) := by
  unfold f_X9_perform
  rw [rr_0_4 tp, rr_17_0 tp, if_neg (by decide), if_neg (by decide), if_neg (by decide), if_neg (by decide), if_neg (by decide), if_neg (by decide), if_pos (by decide)]
theorem pf_7 {T : xT} {S : xS} {w n : Int32} (tp : xTp T S.2.2) : f_X9_perform T S 0 (7 : Int32) w n = xc (f_X1_payIn T S 31 w ((-n))) (fun r34 S33 => some (r34, S33)) := by
  unfold f_X9_perform
  rw [rr_0_4 tp, rr_17_0 tp, if_neg (by decide), if_neg (by decide), if_neg (by decide), if_neg (by decide), if_neg (by decide), if_neg (by decide), if_neg (by decide), if_pos (by decide)]
theorem pf_8 {T : xT} {S : xS} {w n : Int32} (tp : xTp T S.2.2) : f_X9_perform T S 0 (8 : Int32) w n = xgr T S 0 1 2 (fun a36 => xgr T S 0 4 5 (fun a37 => xgr T S a37 2 8 (fun a38 => xgr T S 0 4 5 (fun a39 => xgr T S a39 1 7 (fun a40 => xc (f_X2_valueAnew T S a36 31 a38 a40) (fun r42 S41 => xc (f_X1_letIn T S41 31 w n r42) (fun r44 S43 => some (r44, S43)))))))) := by
  unfold f_X9_perform
  rw [rr_0_4 tp, rr_17_0 tp, if_neg (by decide), if_neg (by decide), if_neg (by decide), if_neg (by decide), if_neg (by decide), if_neg (by decide), if_neg (by decide), if_neg (by decide), if_pos (by decide)]
theorem pf_9 {T : xT} {S : xS} {w n : Int32} (tp : xTp T S.2.2) : f_X9_perform T S 0 (9 : Int32) w n = xgr T S 0 1 2 (fun a46 => xgr T S 0 4 5 (fun a47 => xgr T S a47 2 8 (fun a48 => xgr T S 0 4 5 (fun a49 => xgr T S a49 1 7 (fun a50 => xc (f_X2_valueAnew T S a46 31 a48 a50) (fun r52 S51 => xgr T S51 0 1 2 (fun a53 => xc (f_X2_letOut T S51 a53 w 31) (fun r55 S54 => some (r55, S54))))))))) := by
  unfold f_X9_perform
  rw [rr_0_4 tp, rr_17_0 tp, if_neg (by decide), if_neg (by decide), if_neg (by decide), if_neg (by decide), if_neg (by decide), if_neg (by decide), if_neg (by decide), if_neg (by decide), if_neg (by decide), if_pos (by decide)]
theorem pf_10 {T : xT} {S : xS} {w n : Int32} (tp : xTp T S.2.2) : f_X9_perform T S 0 (10 : Int32) w n = xgr T S 31 7 20 (fun a57 => xc (f_X9_replace T S a57 w n) (fun r59 S58 => some (r59, S58))) := by
  unfold f_X9_perform
  rw [rr_0_4 tp, rr_17_0 tp, if_neg (by decide), if_neg (by decide), if_neg (by decide), if_neg (by decide), if_neg (by decide), if_neg (by decide), if_neg (by decide), if_neg (by decide), if_neg (by decide), if_neg (by decide), if_pos (by decide)]
theorem pf_11 {T : xT} {S : xS} {w n : Int32} (tp : xTp T S.2.2) : f_X9_perform T S 0 (11 : Int32) w n = xgr T S 31 8 20 (fun a61 => xc (f_X9_replace T S a61 w n) (fun r63 S62 => some (r63, S62))) := by
  unfold f_X9_perform
  rw [rr_0_4 tp, rr_17_0 tp, if_neg (by decide), if_neg (by decide), if_neg (by decide), if_neg (by decide), if_neg (by decide), if_neg (by decide), if_neg (by decide), if_neg (by decide), if_neg (by decide), if_neg (by decide), if_neg (by decide), if_pos (by decide)]
theorem pf_12 {T : xT} {S : xS} {w n : Int32} (tp : xTp T S.2.2) : f_X9_perform T S 0 (12 : Int32) w n = xc (f_X1_sellAsset T S 31 w) (fun r66 S65 => some (r66, S65)) := by
  unfold f_X9_perform
  rw [rr_0_4 tp, rr_17_0 tp, if_neg (by decide), if_neg (by decide), if_neg (by decide), if_neg (by decide), if_neg (by decide), if_neg (by decide), if_neg (by decide), if_neg (by decide), if_neg (by decide), if_neg (by decide), if_neg (by decide), if_neg (by decide), if_pos (by decide)]
