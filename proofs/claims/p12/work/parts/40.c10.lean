/-! CONTRACTS OUT OF EVALUATIONS (printed by con_print.py) 10 -/
