/-! CONTRACTS BY HAND 8: reads1, reads2, reads3, reads4, reads5, reads6, reads7, reads8, reads9, reads10 -/
theorem cp_reads1 : lt_ok 40 110 cn_reads1 := sorry
theorem cp_reads2 : lt_ok 40 110 cn_reads2 := sorry
theorem cp_reads3 : lt_ok 40 110 cn_reads3 := sorry
theorem cp_reads4 : lt_ok 40 110 cn_reads4 := sorry
theorem cp_reads5 : lt_ok 40 110 cn_reads5 := sorry
theorem cp_reads6 : lt_ok 40 110 cn_reads6 := sorry
theorem cp_reads7 : lt_ok 40 110 cn_reads7 := sorry
theorem cp_reads8 : lt_ok 40 110 cn_reads8 := sorry
theorem cp_reads9 : lt_ok 40 110 cn_reads9 := sorry
theorem cp_reads10 : lt_ok 40 110 cn_reads10 := sorry
