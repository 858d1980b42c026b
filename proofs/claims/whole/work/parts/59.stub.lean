section RS
variable {n : Nat} {K : Nat → Nat → Nat} {lk rf : Int32} {hol : Nat → Int32} {nr : Nat} {rb : Nat → Nat} {ns : Nat} {sb sh : Nat → Nat} {σ τ σ' τ' : ZS}
theorem watchers_same (h : RX n K lk rf hol nr rb ns sb sh σ τ) : Same (f_X6_watchers σ) (f_X7_watchers τ) := by
  sorry
theorem cure_same (h : RX n K lk rf hol nr rb ns sb sh σ τ) (x : Int32) : Same (f_X6_cure x σ) (f_X7_cure x τ) := by
  sorry
theorem halves_same (h : RX n K lk rf hol nr rb ns sb sh σ τ) (x : Int32) : Same (f_X6_halves x σ) (f_X7_halves x τ) := by
  sorry
end RS
