/-! ===== every call, and the claim ===== -/
theorem step_all (k : Nat) {hc hm : ST} (hI : Inv hc hm) (a1 a2 a3 a4 a5 : Int32) : ∃ y, lawStep k hc hm a1 a2 a3 a4 a5 = some y ∧ Inv y.1 y.2 := by
  unfold lawStep
  split
  · exact t_feed hI a1 a2 a3 a4 a5
  · exact t_parish hI a1
  · exact t_fault hI
  · exact t_count hI a1
  · exact t_room hI a1 a2
  · exact t_far hI a1 a2
  · exact t_near hI a1 a2
  · exact t_blow hI a1 a2 a3
  · exact t_wind hI a1
  · exact t_days hI a1
  · exact t_sweep hI a1 a2 a3
  · exact t_shake hI a1 a2
  · exact t_sneeze hI a1 a2
  · exact t_plan hI a1 a2
  · exact t_undo hI
  · exact t_then hI a1 a2
  · exact t_taken hI a1
  · exact t_thick hI a1 a2
  · exact t_heresy hI
  · exact t_order hI a1 a2
  · exact t_alms hI
  · exact t_round hI a1 a2
  · exact t_shares hI a1
  · exact t_from hI a1 a2 a3
  · exact t_poorest hI a1
  · exact t_fullest hI a1
  · exact t_change hI a1
  · exact t_lend hI a1
  · exact t_often hI a1
  · exact t_riches hI a1
  · exact t_lost hI a1
  · exact t_see hI a1 a2 a3
  · exact t_hand hI a1
  · exact t_forget hI
  · exact t_game hI a1 a2 a3
  · exact t_years hI a1 a2 a3
  · exact t_image hI
  · exact t_restore hI
  · exact ⟨(hc, hm), rfl, hI⟩
theorem i_vc : Claimed_1_1 ∧ Claimed_1_2 := i_vc_of (fun _ => Inv) inv0 (fun _ hc hm k a1 a2 a3 a4 a5 _ hI => step_all k hI a1 a2 a3 a4 a5)
