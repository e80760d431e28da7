theorem st_land {T : TH} (H : Inv T) : wp_X8_land T (fun r1 T1 => wp_X9_land T1 (fun r2 T2 => r1 = r2 ∧ zR r1 ∧ Inv T2)) := by
  sorry
