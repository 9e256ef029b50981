/-! BY HAND: way: its functions have one outcome each (2) -/
theorem wy_ckC2 : fc_ck [] (wy_EF 2) wy_hB [76] (wy_LC 2) (wy_qC 2) 108 (fun _ => true) = true := by decide +kernel
theorem wy_ckC3 : fc_ck [] (wy_EF 3) wy_hB [76] (wy_LC 3) (wy_qC 3) 108 (fun _ => true) = true := by decide +kernel
theorem wy_ckC (k : Nat) (hk : k < 4) : fc_ck [] (wy_EF k) wy_hB [76] (wy_LC k) (wy_qC k) 108 (fun _ => true) = true := match k, hk with
  | 0, _ => wy_ckC0
  | 1, _ => wy_ckC1
  | 2, _ => wy_ckC2
  | 3, _ => wy_ckC3
