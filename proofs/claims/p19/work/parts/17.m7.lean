/-- what edge answers, and how many edges there are behind it -/
def z_eBad (m p q b s : Int) : Int := if 0 ≤ m ∧ m ≤ 2 ∧ 0 ≤ p ∧ p ≤ 5 ∧ 0 ≤ q ∧ q ≤ 5 then (if -4 ≤ b ∧ b ≤ 4 ∧ (z_i s &&& z_i (-15)).toInt = 0 then 0 else -102) else -101
def z_edgeR (m p q b s n : Int) : Int := if z_eBad m p q b s = 0 then (if n = 20 then -104 else n) else z_eBad m p q b s
def z_edgeN (m p q b s n : Int) : Int := if z_eBad m p q b s = 0 ∧ n ≠ 20 then n + 1 else n
theorem z_edgeR_rg {m p q b s n : Int} (h : 0 ≤ n ∧ n ≤ 20) : z_rg (z_edgeR m p q b s n) := by unfold z_edgeR z_eBad; split <;> (try split) <;> (try split) <;> omega