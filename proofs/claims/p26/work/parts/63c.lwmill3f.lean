/-! THE LAW: mill, 3 of them told (rows) -/
theorem lx_m3_3 : lx_mkA lx_Tv3 (lx_bk 2 2) [270, 271, 272, 273, 274, 275, 276, 277, 278] lx_P2 3 3 = true := by decide +kernel
theorem lx_mq3 : ∀ v, v ≤ 3 → lx_MKQ 3 v := fun v h => match v with
  | 0 => lx_MKQ5 lx_Tu3_ok lx_Tv3_ok lx_pf3 lx_pk3 lx_mu3_neg lx_mu3_big lx_mu3_0 lx_mu3_1 lx_mu3_3 lx_m3_0
  | 1 => lx_MKQ5 lx_Tu3_ok lx_Tv3_ok lx_pf3 lx_pk3 lx_mu3_neg lx_mu3_big lx_mu3_0 lx_mu3_1 lx_mu3_3 lx_m3_1
  | 2 => lx_MKQ5 lx_Tu3_ok lx_Tv3_ok lx_pf3 lx_pk3 lx_mu3_neg lx_mu3_big lx_mu3_0 lx_mu3_1 lx_mu3_3 lx_m3_2
  | 3 => lx_MKQ5 lx_Tu3_ok lx_Tv3_ok lx_pf3 lx_pk3 lx_mu3_neg lx_mu3_big lx_mu3_0 lx_mu3_1 lx_mu3_3 lx_m3_3
  | n + 4 => absurd h (by omega)
